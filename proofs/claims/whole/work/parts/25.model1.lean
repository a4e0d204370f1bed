/-- the first t of f, the others of g -/
def mix (f g : Nat → Int32) (t : Nat) : Nat → Int32 := fun j => if j < t then f j else g j
theorem mix_0 (f g : Nat → Int32) : mix f g 0 = g := by
  funext j
  unfold mix
  rw [if_neg (by omega)]
theorem mix_i {f g : Nat → Int32} {t : Nat} : mix f g t t = g t := if_neg (by omega)
theorem mix_s {f g : Nat → Int32} {t : Nat} : upd (mix f g t) t (f t) = mix f g (t + 1) := by
  funext j
  unfold upd mix
  by_cases h : j = t
  · subst h
    simp
  · by_cases h2 : j < t
    · simp [h, h2, Nat.lt_succ_of_lt h2]
    · simp [h, h2, show ¬ j < t + 1 by omega]
theorem mix_lt {f g : Nat → Int32} {t j : Nat} (h : j < t) : mix f g t j = f j := if_pos h
/-- f 0 + f 1 x + .. , t of them -/
def psm (f : Nat → Int32) (x : Int) : Nat → Int
  | 0 => 0
  | t + 1 => psm f x t + (f t).toInt * x ^ t
theorem psm_step {f : Nat → Int32} {x P : Int} {t : Nat} : (psm f x t % P + (f t).toInt % P * (x ^ t % P)) % P = psm f x (t + 1) % P := by
  show _ = (psm f x t + (f t).toInt * x ^ t) % P
  rw [Int.emod_add_emod, Int.add_emod (psm f x t) ((f t).toInt % P * (x ^ t % P)), Int.add_emod (psm f x t) ((f t).toInt * x ^ t), Int.mul_emod (f t).toInt (x ^ t)]
theorem pow_step {x P : Int} {t : Nat} : x ^ t % P * x % P = x ^ (t + 1) % P := by
  rw [Int.pow_succ, Int.mul_emod, Int.emod_emod, ← Int.mul_emod]
theorem rest_step {H U P : Int} {v : Nat} (hv : v < 64) (hU : 0 ≤ U) : (2 * ((H * 2 ^ (64 - (v + 1)) + U / 2 ^ (v + 1)) % P) + U / 2 ^ v % 2) % P = (H * 2 ^ (64 - v) + U / 2 ^ v) % P := by
  have h1 : (2 : Int) ^ (64 - v) = 2 * 2 ^ (64 - (v + 1)) := by
    rw [show 64 - v = (64 - (v + 1)) + 1 by omega, Int.pow_succ, Int.mul_comm]
  have h2 : U / 2 ^ (v + 1) = U / 2 ^ v / 2 := by
    rw [Int.pow_succ, Int.ediv_ediv_of_nonneg (Int.le_of_lt (Int.pow_pos (by omega)))]
  have h3 : H * 2 ^ (64 - v) + U / 2 ^ v = 2 * (H * 2 ^ (64 - (v + 1)) + U / 2 ^ (v + 1)) + U / 2 ^ v % 2 := by
    rw [h1, h2, Int.mul_add, ← Int.mul_assoc, Int.mul_comm H 2, Int.mul_assoc]
    omega
  rw [h3, Int.add_emod, Int.mul_emod, Int.emod_emod, ← Int.mul_emod, ← Int.add_emod]
theorem np_no {i : Int32} (h : nI 3 ≤ i) : ¬ i ≤ nI 2 := by
  have h3 : (nI 3).toInt = 3 := by decide
  have h2 : (nI 2).toInt = 2 := by decide
  rw [Int32.le_iff_toInt_le] at h ⊢
  omega
theorem u_div64 {U : Int} (h1 : 0 ≤ U) (h2 : U < 18446744073709551616) : U / 2 ^ 64 = 0 := by
  have h3 : (2 : Int) ^ 64 = 18446744073709551616 := by decide
  rw [h3]
  omega
abbrev q_X4_prime (dC : Nat → ClassId) (dI : Nat → Nat → Nat) (q : Nat) (A : Nat → Prop) : Array Value → State → Outcome → State → Prop := va_Ql (fun (r : Int64) (u : Unit) => r = lI ((prN q : Nat) : Int)) (fun u t => va_P (dC, dI) vwCl [] t.heap ∧ va_D A []) A
set_option maxHeartbeats 4000000 in
set_option maxRecDepth 100000 in
theorem c_X4_prime (l : Launch) (dC : Nat → ClassId) (dI : Nat → Nat → Nat) (q : Nat) (sz : Nat) (zq : q < 3) : Met l yX4_prime wsX4_prime ({ frames := 0, cells := 0, slots := 0, locals := 0 }) (va_Pc [.int (nI q)] (fun U => U.heap.size = sz ∧ va_P (dC, dI) vwCl [] U.heap ∧ va_K (dC, dI) vwCl [] U ∧ va_D (fun _ => True) [])) (q_X4_prime dC dI q (va_A [] sz)) 0 0 (va_A [] sz) := by
  refine Met.ofW (cc := cX4_prime) (maxL := 1) (ret := (some .long)) (by decide) rfl ?_
  intro p e s m args below meth c s₁ B hml hv
  obtain ⟨rfl, hsz, hP, hK, hD0⟩ := hv
  have hx := B.exec
  have hb := B.bytes
  have hr := B.returns
  have hts := atoms_spec (ws := wsX4_prime) B.pre
  have hown : s.vm.findClass RX4 = some m.cls := findClass_of_methodNamed B.named
  have hlocks := B.notSynchronized
  subst hsz
  have hD := hD0.self (sz := s.heap.size)
  generalize hAe : va_A [] s.heap.size = A at hD ⊢
  have hA : ∀ q : Nat, s.heap.size ≤ q → A q := fun q h => by rw [← hAe]; exact Or.inr h
  have hS : va_S A s.heap s.heap [] := va_S.rf
  have hP : va_P (dC, dI) vwCl [] s.heap := hP
  have hl := lv_entry (([.int (nI q)] : List Value)) (n := 1) (Nat.le_of_ble_eq_true rfl)
  rw [lg_entry_eq]
  generalize (lg_sl (([.int (nI q)] : List Value)) ++ List.replicate (1 - (lg_sl (([.int (nI q)] : List Value))).length) Slot.unset).toArray = ls at hl ⊢
  have hl : lv_has ls 1 [(0, .int (nI q))] := hl
  obtain ⟨H, hHe⟩ : ∃ H : Heap, H = s.heap := ⟨_, rfl⟩
  rw [← hHe] at hP
  have hS : va_S A s.heap H [] := by rw [hHe]; exact hS
  obtain ⟨locs, hlo⟩ : ∃ L : List Loc, L = [] := ⟨_, rfl⟩
  rw [← hlo] at hS ⊢
  rw [← hHe]
  refine lv_iload_n hx hb dX4_prime_0 rfl (lv_at hl 0 rfl) ?_
  refine lv_if_ne (tgt := 10) hx hb dX4_prime_1 (by decide) (fun c_1 => ?_) (fun c_1 => ?_)
  · have c_1 : ¬ (q = 0) := fun zq9 => c_1 ((nI_eq (a := q) (b := 0) (by omega) (by omega)).mpr zq9)
    refine lv_iload_n hx hb dX4_prime_10 rfl (lv_at hl 0 rfl) ?_
    refine lv_iconst (v := nI 1) hx hb dX4_prime_11 (by decide) ?_
    refine lv_icmp_ne (tgt := 21) hx hb dX4_prime_12 (by decide) (fun c_2 => ?_) (fun c_2 => ?_)
    · have c_2 : ¬ (q = 1) := fun zq9 => c_2 ((nI_eq (a := q) (b := 1) (by omega) (by omega)).mpr zq9)
      refine lv_ldc2 (own := RX4) (v := lI (469762049)) hx hb hown (hts (.constantLong RX4 64 (469762049)) (by decide +kernel)) dX4_prime_21 ?_
      have hP9 : va_P (dC, dI) vwCl [] H := hP.sub [] rfl
      have hD9 : va_D A [] := hD.sub [] (by decide) rfl
      exact W.lret (v := lI 469762049) hx hb hr (fun tq9 ht hW => ⟨⟨lI 469762049, (), rfl, by have h9 : q = 2 := (by omega); subst h9; rfl, by rw [ht]; exact hP9, hD9⟩, hS.F ht⟩) hS.2.2 dX4_prime_24
    · have c_2 : q = 1 := (nI_eq (a := q) (b := 1) (by omega) (by omega)).mp c_2
      refine lv_ldc2 (own := RX4) (v := lI (167772161)) hx hb hown (hts (.constantLong RX4 62 (167772161)) (by decide +kernel)) dX4_prime_15 ?_
      refine lv_goto (tgt := 24) hx hb dX4_prime_18 (by decide) ?_
      have hP9 : va_P (dC, dI) vwCl [] H := hP.sub [] rfl
      have hD9 : va_D A [] := hD.sub [] (by decide) rfl
      exact W.lret (v := lI 167772161) hx hb hr (fun tq9 ht hW => ⟨⟨lI 167772161, (), rfl, by have h9 : q = 1 := (by omega); subst h9; rfl, by rw [ht]; exact hP9, hD9⟩, hS.F ht⟩) hS.2.2 dX4_prime_24
  · have c_1 : q = 0 := (nI_eq (a := q) (b := 0) (by omega) (by omega)).mp c_1
    refine lv_ldc2 (own := RX4) (v := lI (998244353)) hx hb hown (hts (.constantLong RX4 60 (998244353)) (by decide +kernel)) dX4_prime_4 ?_
    refine lv_goto (tgt := 24) hx hb dX4_prime_7 (by decide) ?_
    have hP9 : va_P (dC, dI) vwCl [] H := hP.sub [] rfl
    have hD9 : va_D A [] := hD.sub [] (by decide) rfl
    exact W.lret (v := lI 998244353) hx hb hr (fun tq9 ht hW => ⟨⟨lI 998244353, (), rfl, by have h9 : q = 0 := (by omega); subst h9; rfl, by rw [ht]; exact hP9, hD9⟩, hS.F ht⟩) hS.2.2 dX4_prime_24

abbrev q_X4_noPrime_ok (dC : Nat → ClassId) (dI : Nat → Nat → Nat) (q : Nat) (A : Nat → Prop) : Array Value → State → Outcome → State → Prop := va_Qi (fun (r : Int32) (u : Unit) => r = nI 0) (fun u t => va_P (dC, dI) vwCl [] t.heap ∧ va_D A []) A
set_option maxHeartbeats 4000000 in
set_option maxRecDepth 100000 in
theorem c_X4_noPrime_ok (l : Launch) (dC : Nat → ClassId) (dI : Nat → Nat → Nat) (q : Nat) (sz : Nat) (zq : q < 3) : Met l yX4_noPrime wsX4_noPrime ({ frames := 0, cells := 0, slots := 0, locals := 0 }) (va_Pc [.int (nI q)] (fun U => U.heap.size = sz ∧ va_P (dC, dI) vwCl [] U.heap ∧ va_K (dC, dI) vwCl [] U ∧ va_D (fun _ => True) [])) (q_X4_noPrime_ok dC dI q (va_A [] sz)) 0 0 (va_A [] sz) := by
  refine Met.ofW (cc := cX4_noPrime) (maxL := 1) (ret := (some .boolean)) (by decide) rfl ?_
  intro p e s m args below meth c s₁ B hml hv
  obtain ⟨rfl, hsz, hP, hK, hD0⟩ := hv
  have hx := B.exec
  have hb := B.bytes
  have hr := B.returns
  have hts := atoms_spec (ws := wsX4_noPrime) B.pre
  have hown : s.vm.findClass RX4 = some m.cls := findClass_of_methodNamed B.named
  have hlocks := B.notSynchronized
  subst hsz
  have hD := hD0.self (sz := s.heap.size)
  generalize hAe : va_A [] s.heap.size = A at hD ⊢
  have hA : ∀ q : Nat, s.heap.size ≤ q → A q := fun q h => by rw [← hAe]; exact Or.inr h
  have hS : va_S A s.heap s.heap [] := va_S.rf
  have hP : va_P (dC, dI) vwCl [] s.heap := hP
  have hl := lv_entry (([.int (nI q)] : List Value)) (n := 1) (Nat.le_of_ble_eq_true rfl)
  rw [lg_entry_eq]
  generalize (lg_sl (([.int (nI q)] : List Value)) ++ List.replicate (1 - (lg_sl (([.int (nI q)] : List Value))).length) Slot.unset).toArray = ls at hl ⊢
  have hl : lv_has ls 1 [(0, .int (nI q))] := hl
  obtain ⟨H, hHe⟩ : ∃ H : Heap, H = s.heap := ⟨_, rfl⟩
  rw [← hHe] at hP
  have hS : va_S A s.heap H [] := by rw [hHe]; exact hS
  obtain ⟨locs, hlo⟩ : ∃ L : List Loc, L = [] := ⟨_, rfl⟩
  rw [← hlo] at hS ⊢
  rw [← hHe]
  refine lv_iload_n hx hb dX4_noPrime_0 rfl (lv_at hl 0 rfl) ?_
  refine lv_if_lt (tgt := 9) hx hb dX4_noPrime_1 (by decide) (fun c_1 => ?_) (fun c_1 => ?_)
  · have c_1 : q < 0 := (nI_ltI (a := q) (b := 0) (by omega) (by omega)).mp c_1
    omega
  · have c_1 : ¬ (q < 0) := fun zq9 => c_1 ((nI_ltI (a := q) (b := 0) (by omega) (by omega)).mpr zq9)
    refine lv_iload_n hx hb dX4_noPrime_4 rfl (lv_at hl 0 rfl) ?_
    refine lv_iconst (v := nI 2) hx hb dX4_noPrime_5 (by decide) ?_
    refine lv_icmp_le (tgt := 13) hx hb dX4_noPrime_6 (by decide) (fun c_2 => ?_) (fun c_2 => ?_)
    · have c_2 : q ≤ 2 := (nI_leI (a := q) (b := 2) (by omega) (by omega)).mp c_2
      refine lv_iconst (v := nI 0) hx hb dX4_noPrime_13 (by decide) ?_
      have hP9 : va_P (dC, dI) vwCl [] H := hP.sub [] rfl
      have hD9 : va_D A [] := hD.sub [] (by decide) rfl
      exact W.zret (v := nI 0) hx hb hr (by decide) (fun tq9 ht hW => ⟨⟨nI 0, (), rfl, rfl, by rw [ht]; exact hP9, hD9⟩, hS.F ht⟩) hS.2.2 dX4_noPrime_14
    · have c_2 : ¬ (q ≤ 2) := fun zq9 => c_2 ((nI_leI (a := q) (b := 2) (by omega) (by omega)).mpr zq9)
      omega

abbrev q_X4_noPrime_bad (dC : Nat → ClassId) (dI : Nat → Nat → Nat) (i : Int32) (A : Nat → Prop) : Array Value → State → Outcome → State → Prop := va_Qi (fun (r : Int32) (u : Unit) => r = nI 1) (fun u t => va_P (dC, dI) vwCl [] t.heap ∧ va_D A []) A
set_option maxHeartbeats 4000000 in
set_option maxRecDepth 100000 in
theorem c_X4_noPrime_bad (l : Launch) (dC : Nat → ClassId) (dI : Nat → Nat → Nat) (i : Int32) (sz : Nat) (hbad : i < 0 ∨ nI 3 ≤ i) : Met l yX4_noPrime wsX4_noPrime ({ frames := 0, cells := 0, slots := 0, locals := 0 }) (va_Pc [.int i] (fun U => U.heap.size = sz ∧ va_P (dC, dI) vwCl [] U.heap ∧ va_K (dC, dI) vwCl [] U ∧ va_D (fun _ => True) [])) (q_X4_noPrime_bad dC dI i (va_A [] sz)) 0 0 (va_A [] sz) := by
  refine Met.ofW (cc := cX4_noPrime) (maxL := 1) (ret := (some .boolean)) (by decide) rfl ?_
  intro p e s m args below meth c s₁ B hml hv
  obtain ⟨rfl, hsz, hP, hK, hD0⟩ := hv
  have hx := B.exec
  have hb := B.bytes
  have hr := B.returns
  have hts := atoms_spec (ws := wsX4_noPrime) B.pre
  have hown : s.vm.findClass RX4 = some m.cls := findClass_of_methodNamed B.named
  have hlocks := B.notSynchronized
  subst hsz
  have hD := hD0.self (sz := s.heap.size)
  generalize hAe : va_A [] s.heap.size = A at hD ⊢
  have hA : ∀ q : Nat, s.heap.size ≤ q → A q := fun q h => by rw [← hAe]; exact Or.inr h
  have hS : va_S A s.heap s.heap [] := va_S.rf
  have hP : va_P (dC, dI) vwCl [] s.heap := hP
  have hl := lv_entry (([.int i] : List Value)) (n := 1) (Nat.le_of_ble_eq_true rfl)
  rw [lg_entry_eq]
  generalize (lg_sl (([.int i] : List Value)) ++ List.replicate (1 - (lg_sl (([.int i] : List Value))).length) Slot.unset).toArray = ls at hl ⊢
  have hl : lv_has ls 1 [(0, .int i)] := hl
  obtain ⟨H, hHe⟩ : ∃ H : Heap, H = s.heap := ⟨_, rfl⟩
  rw [← hHe] at hP
  have hS : va_S A s.heap H [] := by rw [hHe]; exact hS
  obtain ⟨locs, hlo⟩ : ∃ L : List Loc, L = [] := ⟨_, rfl⟩
  rw [← hlo] at hS ⊢
  rw [← hHe]
  refine lv_iload_n hx hb dX4_noPrime_0 rfl (lv_at hl 0 rfl) ?_
  refine lv_if_lt (tgt := 9) hx hb dX4_noPrime_1 (by decide) (fun c_1 => ?_) (fun c_1 => ?_)
  · refine lv_iconst (v := nI 1) hx hb dX4_noPrime_9 (by decide) ?_
    refine lv_goto (tgt := 14) hx hb dX4_noPrime_10 (by decide) ?_
    have hP9 : va_P (dC, dI) vwCl [] H := hP.sub [] rfl
    have hD9 : va_D A [] := hD.sub [] (by decide) rfl
    exact W.zret (v := nI 1) hx hb hr (by decide) (fun tq9 ht hW => ⟨⟨nI 1, (), rfl, rfl, by rw [ht]; exact hP9, hD9⟩, hS.F ht⟩) hS.2.2 dX4_noPrime_14
  · refine lv_iload_n hx hb dX4_noPrime_4 rfl (lv_at hl 0 rfl) ?_
    refine lv_iconst (v := nI 2) hx hb dX4_noPrime_5 (by decide) ?_
    refine lv_icmp_le (tgt := 13) hx hb dX4_noPrime_6 (by decide) (fun c_2 => ?_) (fun c_2 => ?_)
    · exact absurd c_2 (np_no (hbad.resolve_left c_1))
    · refine lv_iconst (v := nI 1) hx hb dX4_noPrime_9 (by decide) ?_
      refine lv_goto (tgt := 14) hx hb dX4_noPrime_10 (by decide) ?_
      have hP9 : va_P (dC, dI) vwCl [] H := hP.sub [] rfl
      have hD9 : va_D A [] := hD.sub [] (by decide) rfl
      exact W.zret (v := nI 1) hx hb hr (by decide) (fun tq9 ht hW => ⟨⟨nI 1, (), rfl, rfl, by rw [ht]; exact hP9, hD9⟩, hS.F ht⟩) hS.2.2 dX4_noPrime_14

abbrev q_X4_restOf (dC : Nat → ClassId) (dI : Nat → Nat → Nat) (x : Int) (P : Nat) (A : Nat → Prop) : Array Value → State → Outcome → State → Prop := va_Ql (fun (r : Int64) (u : Unit) => r = lI (x % (P : Int))) (fun u t => va_P (dC, dI) vwCl [] t.heap ∧ va_D A []) A
set_option maxHeartbeats 4000000 in
set_option maxRecDepth 100000 in
theorem c_X4_restOf (l : Launch) (dC : Nat → ClassId) (dI : Nat → Nat → Nat) (x : Int) (P : Nat) (sz : Nat) (zx1 : -2 ^ 63 ≤ x) (zx2 : x < 2 ^ 63) (hp0 : (0 : Int) < (P : Int)) (hp1 : P ≤ 2 ^ 30) : Met l yX4_restOf wsX4_restOf ({ frames := 0, cells := 0, slots := 0, locals := 0 }) (va_Pc [.long (lI x), .long (lI ((P : Nat) : Int))] (fun U => U.heap.size = sz ∧ va_P (dC, dI) vwCl [] U.heap ∧ va_K (dC, dI) vwCl [] U ∧ va_D (fun _ => True) [])) (q_X4_restOf dC dI x P (va_A [] sz)) 0 0 (va_A [] sz) := by
  refine Met.ofW (cc := cX4_restOf) (maxL := 6) (ret := (some .long)) (by decide) rfl ?_
  intro p e s m args below meth c s₁ B hml hv
  obtain ⟨rfl, hsz, hP, hK, hD0⟩ := hv
  have hx := B.exec
  have hb := B.bytes
  have hr := B.returns
  have hts := atoms_spec (ws := wsX4_restOf) B.pre
  have hown : s.vm.findClass RX4 = some m.cls := findClass_of_methodNamed B.named
  have hlocks := B.notSynchronized
  subst hsz
  have hD := hD0.self (sz := s.heap.size)
  generalize hAe : va_A [] s.heap.size = A at hD ⊢
  have hA : ∀ q : Nat, s.heap.size ≤ q → A q := fun q h => by rw [← hAe]; exact Or.inr h
  have hS : va_S A s.heap s.heap [] := va_S.rf
  have hP : va_P (dC, dI) vwCl [] s.heap := hP
  have hl := lv_entry (([.long (lI x), .long (lI ((P : Nat) : Int))] : List Value)) (n := 6) (Nat.le_of_ble_eq_true rfl)
  rw [lg_entry_eq]
  generalize (lg_sl (([.long (lI x), .long (lI ((P : Nat) : Int))] : List Value)) ++ List.replicate (6 - (lg_sl (([.long (lI x), .long (lI ((P : Nat) : Int))] : List Value))).length) Slot.unset).toArray = ls at hl ⊢
  have hl : lv_has ls 6 [(0, .long (lI x)), (2, .long (lI ((P : Nat) : Int)))] := hl
  obtain ⟨H, hHe⟩ : ∃ H : Heap, H = s.heap := ⟨_, rfl⟩
  rw [← hHe] at hP
  have hS : va_S A s.heap H [] := by rw [hHe]; exact hS
  obtain ⟨locs, hlo⟩ : ∃ L : List Loc, L = [] := ⟨_, rfl⟩
  rw [← hlo] at hS ⊢
  rw [← hHe]
  refine lv_lload_n hx hb dX4_restOf_0 rfl (lv_at hl 0 rfl) ?_
  refine lv_lload_n hx hb dX4_restOf_1 rfl (lv_at hl 1 rfl) ?_
  refine lv_lrem hx hb dX4_restOf_2 (fun zq9 => absurd ((lI_eq (b := 0) (by omega) (by omega) (by omega) (by omega)).mp zq9) (by omega)) ?_
  refine W.eq (congrArg (fun z => F0 m _ ls (.long z :: _)) (show lI x - lI x / lI ((P : Nat) : Int) * lI ((P : Nat) : Int) = lI ((x).tmod ((P : Nat) : Int)) from lI_rem (by omega) (by omega) (by omega) (by omega))) ?_
  have tb := tmod_b x hp0
  refine lv_lstore (lv' := [(4, .long (lI ((x).tmod ((P : Nat) : Int)))), (0, .long (lI x)), (2, .long (lI ((P : Nat) : Int)))]) hx hb dX4_restOf_3 hl (by decide) rfl (fun ls hl => ?_)
  refine lv_lload hx hb dX4_restOf_5 (lv_at hl 0 rfl) ?_
  refine lv_lconst (v := lI 0) hx hb dX4_restOf_7 (by decide) ?_
  refine W.lcmp hx hb dX4_restOf_8 ?_
  refine lv_if_ge (tgt := 19) hx hb dX4_restOf_9 (by decide) (fun c_1 => ?_) (fun c_1 => ?_)
  · have c_1 : 0 ≤ ((x).tmod ((P : Nat) : Int)) := ((lg_cmp_ge _ _).trans (lI_le (a := 0) (b := (x).tmod ((P : Nat) : Int)) (by omega) (by omega) (by omega) (by omega))).mp c_1
    refine lv_lload hx hb dX4_restOf_19 (lv_at hl 0 rfl) ?_
    have hP9 : va_P (dC, dI) vwCl [] H := hP.sub [] rfl
    have hD9 : va_D A [] := hD.sub [] (by decide) rfl
    exact W.lret (v := lI ((x).tmod ((P : Nat) : Int))) hx hb hr (fun tq9 ht hW => ⟨⟨lI ((x).tmod ((P : Nat) : Int)), (), rfl, by rw [← rem_fix (x := x) hp0, if_neg (by omega)], by rw [ht]; exact hP9, hD9⟩, hS.F ht⟩) hS.2.2 dX4_restOf_21
  · have c_1 : ¬ (0 ≤ ((x).tmod ((P : Nat) : Int))) := fun zq9 => c_1 (((lg_cmp_ge _ _).trans (lI_le (a := 0) (b := (x).tmod ((P : Nat) : Int)) (by omega) (by omega) (by omega) (by omega))).mpr zq9)
    refine lv_lload hx hb dX4_restOf_12 (lv_at hl 0 rfl) ?_
    refine lv_lload_n hx hb dX4_restOf_14 rfl (lv_at hl 2 rfl) ?_
    refine lv_ladd hx hb dX4_restOf_15 ?_
    refine W.eq (congrArg (fun z => F0 m _ ls (.long z :: _)) (show lI ((x).tmod ((P : Nat) : Int)) + lI ((P : Nat) : Int) = lI (((x).tmod ((P : Nat) : Int)) + ((P : Nat) : Int)) from lI_add ((x).tmod ((P : Nat) : Int)) ((P : Nat) : Int))) ?_
    refine lv_goto (tgt := 21) hx hb dX4_restOf_16 (by decide) ?_
    have hP9 : va_P (dC, dI) vwCl [] H := hP.sub [] rfl
    have hD9 : va_D A [] := hD.sub [] (by decide) rfl
    exact W.lret (v := lI (((x).tmod ((P : Nat) : Int)) + ((P : Nat) : Int))) hx hb hr (fun tq9 ht hW => ⟨⟨lI (((x).tmod ((P : Nat) : Int)) + ((P : Nat) : Int)), (), rfl, by rw [← rem_fix (x := x) hp0, if_pos (by omega)], by rw [ht]; exact hP9, hD9⟩, hS.F ht⟩) hS.2.2 dX4_restOf_21

abbrev q_X4_raised (dC : Nat → ClassId) (dI : Nat → Nat → Nat) (b : Int) (x P : Nat) (A : Nat → Prop) : Array Value → State → Outcome → State → Prop := va_Ql (fun (r : Int64) (u : Unit) => r = lI (b ^ x % (P : Int))) (fun u t => va_P (dC, dI) vwCl [] t.heap ∧ va_D A []) A
set_option maxHeartbeats 4000000 in
set_option maxRecDepth 100000 in
theorem c_X4_raised (l : Launch) (dC : Nat → ClassId) (dI : Nat → Nat → Nat) (b : Int) (x P : Nat) (sz : Nat) (zb0 : 0 ≤ b) (zb1 : b < P) (zxx : x < 2 ^ 31) (hp1 : 1 < P) (hp2 : P ≤ 2 ^ 30) : Met l yX4_raised wsX4_raised ({ frames := 0, cells := 0, slots := 0, locals := 0 }) (va_Pc [.long (lI b), .long (lI ((x : Nat) : Int)), .long (lI ((P : Nat) : Int))] (fun U => U.heap.size = sz ∧ va_P (dC, dI) vwCl [] U.heap ∧ va_K (dC, dI) vwCl [] U ∧ va_D (fun _ => True) [])) (q_X4_raised dC dI b x P (va_A [] sz)) 0 0 (va_A [] sz) := by
  refine Met.ofW (cc := cX4_raised) (maxL := 12) (ret := (some .long)) (by decide) rfl ?_
  intro p e s m args below meth c s₁ B hml hv
  obtain ⟨rfl, hsz, hP, hK, hD0⟩ := hv
  have hx := B.exec
  have hb := B.bytes
  have hr := B.returns
  have hts := atoms_spec (ws := wsX4_raised) B.pre
  have hown : s.vm.findClass RX4 = some m.cls := findClass_of_methodNamed B.named
  have hlocks := B.notSynchronized
  subst hsz
  have hD := hD0.self (sz := s.heap.size)
  generalize hAe : va_A [] s.heap.size = A at hD ⊢
  have hA : ∀ q : Nat, s.heap.size ≤ q → A q := fun q h => by rw [← hAe]; exact Or.inr h
  have hS : va_S A s.heap s.heap [] := va_S.rf
  have hP : va_P (dC, dI) vwCl [] s.heap := hP
  have hl := lv_entry (([.long (lI b), .long (lI ((x : Nat) : Int)), .long (lI ((P : Nat) : Int))] : List Value)) (n := 12) (Nat.le_of_ble_eq_true rfl)
  rw [lg_entry_eq]
  generalize (lg_sl (([.long (lI b), .long (lI ((x : Nat) : Int)), .long (lI ((P : Nat) : Int))] : List Value)) ++ List.replicate (12 - (lg_sl (([.long (lI b), .long (lI ((x : Nat) : Int)), .long (lI ((P : Nat) : Int))] : List Value))).length) Slot.unset).toArray = ls at hl ⊢
  have hl : lv_has ls 12 [(0, .long (lI b)), (2, .long (lI ((x : Nat) : Int))), (4, .long (lI ((P : Nat) : Int)))] := hl
  obtain ⟨H, hHe⟩ : ∃ H : Heap, H = s.heap := ⟨_, rfl⟩
  rw [← hHe] at hP
  have hS : va_S A s.heap H [] := by rw [hHe]; exact hS
  obtain ⟨locs, hlo⟩ : ∃ L : List Loc, L = [] := ⟨_, rfl⟩
  rw [← hlo] at hS ⊢
  rw [← hHe]
  refine lv_lconst (v := lI 1) hx hb dX4_raised_0 (by decide) ?_
  refine lv_lstore (lv' := [(6, .long (lI 1)), (0, .long (lI b)), (2, .long (lI ((x : Nat) : Int))), (4, .long (lI ((P : Nat) : Int)))]) hx hb dX4_raised_1 hl (by decide) rfl (fun ls hl => ?_)
  refine lv_lload_n hx hb dX4_raised_3 rfl (lv_at hl 1 rfl) ?_
  refine lv_lstore (lv' := [(8, .long (lI b)), (6, .long (lI 1)), (0, .long (lI b)), (2, .long (lI ((x : Nat) : Int))), (4, .long (lI ((P : Nat) : Int)))]) hx hb dX4_raised_4 hl (by decide) rfl (fun ls hl => ?_)
  refine lv_lload_n hx hb dX4_raised_6 rfl (lv_at hl 3 rfl) ?_
  refine lv_lstore (lv' := [(10, .long (lI ((x : Nat) : Int))), (8, .long (lI b)), (6, .long (lI 1)), (0, .long (lI b)), (2, .long (lI ((x : Nat) : Int))), (4, .long (lI ((P : Nat) : Int)))]) hx hb dX4_raised_7 hl (by decide) rfl (fun ls hl => ?_)
  have key_9 : ∀ (fuel : Nat) (r : Int) (y : Int) (k9 : Nat), (0 ≤ r) → (r < P) → (0 ≤ y) → (y < P) → (k9 < 2 ^ 31) → (r * y ^ k9 % (P : Int) = b ^ x % (P : Int)) → (k9 < fuel) → ∀ (H : Heap) (locs : List Loc) (ls : Array Slot), va_P (dC, dI) vwCl [] H → va_D A [] → va_S A s.heap H locs → lv_has ls 12 [(10, .long (lI ((k9 : Nat) : Int))), (8, .long (lI y)), (6, .long (lI r)), (4, .long (lI ((P : Nat) : Int)))] → W p l e (headSpec wsX4_raised { frames := 0, cells := 0, slots := 0, locals := 0 }).room s m ([.long (lI b), .long (lI ((x : Nat) : Int)), .long (lI ((P : Nat) : Int))] : List Value).toArray below meth c H locs 0 0 (MQ below (q_X4_raised dC dI b x P  A) ([.long (lI b), .long (lI ((x : Nat) : Int)), .long (lI ((P : Nat) : Int))] : List Value).toArray s 0 0 A) (F0 m 9 ls []) := by
    intro fuel
    induction fuel with
    | zero => intro r y k9; intros; omega
    | succ fuel ih_9 =>
      intro r y k9 hr0 hr1 hq0 hq1 hk hinv hfu H locs ls hP hD hS hl
      have hqq := mul_b30 hq0 hq1 hq0 hq1 (by omega)
      have hrq := mul_b30 hr0 hr1 hq0 hq1 (by omega)
      have hq2 := emod_rng (y * y) (show (0 : Int) < P by omega)
      have hr2 := emod_rng (r * y) (show (0 : Int) < P by omega)
      have hst := raise_step r y P k9
      refine lv_lload hx hb dX4_raised_9 (lv_at hl 0 rfl) ?_
      refine lv_lconst (v := lI 0) hx hb dX4_raised_11 (by decide) ?_
      refine W.lcmp hx hb dX4_raised_12 ?_
      refine lv_if_le (tgt := 63) hx hb dX4_raised_13 (by decide) (fun c_1 => ?_) (fun c_1 => ?_)
      · have c_1 : ((k9 : Nat) : Int) ≤ 0 := ((lg_cmp_le _ _).trans (lI_le (a := ((k9 : Nat) : Int)) (b := 0) (by omega) (by omega) (by omega) (by omega))).mp c_1
        refine lv_lload hx hb dX4_raised_63 (lv_at hl 2 rfl) ?_
        have hP9 : va_P (dC, dI) vwCl [] H := hP.sub [] rfl
        have hD9 : va_D A [] := hD.sub [] (by decide) rfl
        exact W.lret (v := lI r) hx hb hr (fun tq9 ht hW => ⟨⟨lI r, (), rfl, by congr 1; rw [← hinv, show k9 = 0 by omega, Int.pow_zero, Int.mul_one, Int.emod_eq_of_lt hr0 hr1], by rw [ht]; exact hP9, hD9⟩, hS.F ht⟩) hS.2.2 dX4_raised_65
      · have c_1 : ¬ (((k9 : Nat) : Int) ≤ 0) := fun zq9 => c_1 (((lg_cmp_le _ _).trans (lI_le (a := ((k9 : Nat) : Int)) (b := 0) (by omega) (by omega) (by omega) (by omega))).mpr zq9)
        refine lv_lload hx hb dX4_raised_16 (lv_at hl 0 rfl) ?_
        refine lv_ldc2 (own := RX4) (v := lI (2)) hx hb hown (hts (.constantLong RX4 77 (2)) (by decide +kernel)) dX4_raised_18 ?_
        refine lv_lrem hx hb dX4_raised_21 (fun zq9 => absurd ((lI_eq (b := 0) (by omega) (by omega) (by omega) (by omega)).mp zq9) (by omega)) ?_
        refine W.eq (congrArg (fun z => F0 m _ ls (.long z :: _)) (show lI ((k9 : Nat) : Int) - lI ((k9 : Nat) : Int) / lI 2 * lI 2 = lI (((k9 : Nat) : Int) % 2) from lI_rem0 (by omega) (by omega) (by omega) (by omega))) ?_
        refine lv_lconst (v := lI 1) hx hb dX4_raised_22 (by decide) ?_
        refine W.lcmp hx hb dX4_raised_23 ?_
        refine lv_if_ne (tgt := 38) hx hb dX4_raised_24 (by decide) (fun c_2 => ?_) (fun c_2 => ?_)
        · have c_2 : ¬ ((((k9 : Nat) : Int) % 2) = 1) := fun zq9 => c_2 (((lg_cmp_eq _ _).trans (lI_eq (a := ((k9 : Nat) : Int) % 2) (b := 1) (by omega) (by omega) (by omega) (by omega))).mpr zq9)
          refine lv_lload hx hb dX4_raised_38 (lv_at hl 2 rfl) ?_
          refine lv_lstore (lv' := [(6, .long (lI r)), (10, .long (lI ((k9 : Nat) : Int))), (8, .long (lI y)), (4, .long (lI ((P : Nat) : Int)))]) hx hb dX4_raised_40 hl (by decide) rfl (fun ls hl => ?_)
          refine lv_lload hx hb dX4_raised_42 (lv_at hl 2 rfl) ?_
          refine lv_lload hx hb dX4_raised_44 (lv_at hl 2 rfl) ?_
          refine lv_lmul hx hb dX4_raised_46 ?_
          refine W.eq (congrArg (fun z => F0 m _ ls (.long z :: _)) (show lI y * lI y = lI (y * y) from lI_mul y y)) ?_
          refine lv_lload hx hb dX4_raised_47 (lv_at hl 3 rfl) ?_
          refine lv_lrem hx hb dX4_raised_49 (fun zq9 => absurd ((lI_eq (b := 0) (by omega) (by omega) (by omega) (by omega)).mp zq9) (by omega)) ?_
          refine W.eq (congrArg (fun z => F0 m _ ls (.long z :: _)) (show lI (y * y) - lI (y * y) / lI ((P : Nat) : Int) * lI ((P : Nat) : Int) = lI ((y * y) % ((P : Nat) : Int)) from lI_rem0 (by omega) (by omega) (by omega) (by omega))) ?_
          refine lv_lstore (lv' := [(8, .long (lI ((y * y) % ((P : Nat) : Int)))), (6, .long (lI r)), (10, .long (lI ((k9 : Nat) : Int))), (4, .long (lI ((P : Nat) : Int)))]) hx hb dX4_raised_50 hl (by decide) rfl (fun ls hl => ?_)
          refine lv_lload hx hb dX4_raised_52 (lv_at hl 2 rfl) ?_
          refine lv_ldc2 (own := RX4) (v := lI (2)) hx hb hown (hts (.constantLong RX4 77 (2)) (by decide +kernel)) dX4_raised_54 ?_
          refine lv_ldiv hx hb dX4_raised_57 (fun zq9 => absurd ((lI_eq (b := 0) (by omega) (by omega) (by omega) (by omega)).mp zq9) (by omega)) ?_
          refine W.eq (congrArg (fun z => F0 m _ ls (.long z :: _)) (show lI ((k9 : Nat) : Int) / lI 2 = lI (((k9 : Nat) : Int) / 2) from lI_div (by omega) (by omega) (by omega) (by omega))) ?_
          refine W.eq (congrArg (fun z => F0 m _ ls (.long z :: _)) (show lI (((k9 : Nat) : Int) / 2) = lI ((k9 / 2 : Nat) : Int) from congrArg lI (by omega))) ?_
          refine lv_lstore (lv' := [(10, .long (lI ((k9 / 2 : Nat) : Int))), (8, .long (lI ((y * y) % ((P : Nat) : Int)))), (6, .long (lI r)), (4, .long (lI ((P : Nat) : Int)))]) hx hb dX4_raised_58 hl (by decide) rfl (fun ls hl => ?_)
          refine lv_goto (tgt := 9) hx hb dX4_raised_60 (by decide) ?_
          exact ih_9  r (y * y % (P : Int)) (k9 / 2) (by omega) (by omega) (by omega) (by omega) (by omega) (by rw [← hinv, ← hst, if_neg (by omega)]) (by omega) _ _ _ (hP.sub [] rfl) (hD.sub [] (by decide) rfl) hS (lv_sub hl [0, 1, 2, 3] rfl)
        · have c_2 : (((k9 : Nat) : Int) % 2) = 1 := ((lg_cmp_eq _ _).trans (lI_eq (a := ((k9 : Nat) : Int) % 2) (b := 1) (by omega) (by omega) (by omega) (by omega))).mp c_2
          refine lv_lload hx hb dX4_raised_27 (lv_at hl 2 rfl) ?_
          refine lv_lload hx hb dX4_raised_29 (lv_at hl 1 rfl) ?_
          refine lv_lmul hx hb dX4_raised_31 ?_
          refine W.eq (congrArg (fun z => F0 m _ ls (.long z :: _)) (show lI r * lI y = lI (r * y) from lI_mul r y)) ?_
          refine lv_lload hx hb dX4_raised_32 (lv_at hl 3 rfl) ?_
          refine lv_lrem hx hb dX4_raised_34 (fun zq9 => absurd ((lI_eq (b := 0) (by omega) (by omega) (by omega) (by omega)).mp zq9) (by omega)) ?_
          refine W.eq (congrArg (fun z => F0 m _ ls (.long z :: _)) (show lI (r * y) - lI (r * y) / lI ((P : Nat) : Int) * lI ((P : Nat) : Int) = lI ((r * y) % ((P : Nat) : Int)) from lI_rem0 (by omega) (by omega) (by omega) (by omega))) ?_
          refine lv_goto (tgt := 40) hx hb dX4_raised_35 (by decide) ?_
          refine lv_lstore (lv' := [(6, .long (lI ((r * y) % ((P : Nat) : Int)))), (10, .long (lI ((k9 : Nat) : Int))), (8, .long (lI y)), (4, .long (lI ((P : Nat) : Int)))]) hx hb dX4_raised_40 hl (by decide) rfl (fun ls hl => ?_)
          refine lv_lload hx hb dX4_raised_42 (lv_at hl 2 rfl) ?_
          refine lv_lload hx hb dX4_raised_44 (lv_at hl 2 rfl) ?_
          refine lv_lmul hx hb dX4_raised_46 ?_
          refine W.eq (congrArg (fun z => F0 m _ ls (.long z :: _)) (show lI y * lI y = lI (y * y) from lI_mul y y)) ?_
          refine lv_lload hx hb dX4_raised_47 (lv_at hl 3 rfl) ?_
          refine lv_lrem hx hb dX4_raised_49 (fun zq9 => absurd ((lI_eq (b := 0) (by omega) (by omega) (by omega) (by omega)).mp zq9) (by omega)) ?_
          refine W.eq (congrArg (fun z => F0 m _ ls (.long z :: _)) (show lI (y * y) - lI (y * y) / lI ((P : Nat) : Int) * lI ((P : Nat) : Int) = lI ((y * y) % ((P : Nat) : Int)) from lI_rem0 (by omega) (by omega) (by omega) (by omega))) ?_
          refine lv_lstore (lv' := [(8, .long (lI ((y * y) % ((P : Nat) : Int)))), (6, .long (lI ((r * y) % ((P : Nat) : Int)))), (10, .long (lI ((k9 : Nat) : Int))), (4, .long (lI ((P : Nat) : Int)))]) hx hb dX4_raised_50 hl (by decide) rfl (fun ls hl => ?_)
          refine lv_lload hx hb dX4_raised_52 (lv_at hl 2 rfl) ?_
          refine lv_ldc2 (own := RX4) (v := lI (2)) hx hb hown (hts (.constantLong RX4 77 (2)) (by decide +kernel)) dX4_raised_54 ?_
          refine lv_ldiv hx hb dX4_raised_57 (fun zq9 => absurd ((lI_eq (b := 0) (by omega) (by omega) (by omega) (by omega)).mp zq9) (by omega)) ?_
          refine W.eq (congrArg (fun z => F0 m _ ls (.long z :: _)) (show lI ((k9 : Nat) : Int) / lI 2 = lI (((k9 : Nat) : Int) / 2) from lI_div (by omega) (by omega) (by omega) (by omega))) ?_
          refine W.eq (congrArg (fun z => F0 m _ ls (.long z :: _)) (show lI (((k9 : Nat) : Int) / 2) = lI ((k9 / 2 : Nat) : Int) from congrArg lI (by omega))) ?_
          refine lv_lstore (lv' := [(10, .long (lI ((k9 / 2 : Nat) : Int))), (8, .long (lI ((y * y) % ((P : Nat) : Int)))), (6, .long (lI ((r * y) % ((P : Nat) : Int)))), (4, .long (lI ((P : Nat) : Int)))]) hx hb dX4_raised_58 hl (by decide) rfl (fun ls hl => ?_)
          refine lv_goto (tgt := 9) hx hb dX4_raised_60 (by decide) ?_
          exact ih_9  ((r * y) % ((P : Nat) : Int)) (y * y % (P : Int)) (k9 / 2) (by omega) (by omega) (by omega) (by omega) (by omega) (by rw [← hinv, ← hst, if_pos (by omega)]) (by omega) _ _ _ (hP.sub [] rfl) (hD.sub [] (by decide) rfl) hS (lv_sub hl [0, 1, 2, 3] rfl)
  exact key_9 (x + 1) 1 b x (by omega) (by omega) (zb0) (zb1) (zxx) (by rw [Int.one_mul]) (by omega) _ _ _ (hP.sub [] rfl) (hD.sub [] (by decide) rfl) hS (lv_sub hl [0, 1, 2, 5] rfl)

abbrev q_X4_thrown (dC : Nat → ClassId) (dI : Nat → Nat → Nat) (mo ma mb lo hi kp ot su k rs : Nat) (tv : Int32) (A : Nat → Prop) : Array Value → State → Outcome → State → Prop := va_Qi (fun (r : Int32) (u : Unit) => r = tv) (fun u t => va_P (dC, dI) vwCl [(mo, .inr (3, [.int tv, .int (nI (2 ^ k)), .ref ma, .ref mb, .int (nI rs), .ref lo, .ref hi, .ref kp, .ref ot, .ref su]))] t.heap ∧ va_D A [(mo, .inr (3, [.int tv, .int (nI (2 ^ k)), .ref ma, .ref mb, .int (nI rs), .ref lo, .ref hi, .ref kp, .ref ot, .ref su]))]) A
set_option maxHeartbeats 4000000 in
set_option maxRecDepth 100000 in
theorem c_X4_thrown (l : Launch) (dC : Nat → ClassId) (dI : Nat → Nat → Nat) (mo ma mb lo hi kp ot su k rs : Nat) (tv : Int32) (sz : Nat) : Met l yX4_thrown wsX4_thrown ({ frames := 0, cells := 0, slots := 0, locals := 0 }) (va_Pc [.ref mo] (fun U => U.heap.size = sz ∧ va_P (dC, dI) vwCl [(mo, .inr (3, [.int tv, .int (nI (2 ^ k)), .ref ma, .ref mb, .int (nI rs), .ref lo, .ref hi, .ref kp, .ref ot, .ref su]))] U.heap ∧ va_K (dC, dI) vwCl [] U ∧ va_D (fun _ => True) [(mo, .inr (3, [.int tv, .int (nI (2 ^ k)), .ref ma, .ref mb, .int (nI rs), .ref lo, .ref hi, .ref kp, .ref ot, .ref su]))])) (q_X4_thrown dC dI mo ma mb lo hi kp ot su k rs tv (va_A [(mo, .inr (3, [.int tv, .int (nI (2 ^ k)), .ref ma, .ref mb, .int (nI rs), .ref lo, .ref hi, .ref kp, .ref ot, .ref su]))] sz)) 0 0 (va_A [(mo, .inr (3, [.int tv, .int (nI (2 ^ k)), .ref ma, .ref mb, .int (nI rs), .ref lo, .ref hi, .ref kp, .ref ot, .ref su]))] sz) := by
  refine Met.ofW (cc := cX4_thrown) (maxL := 1) (ret := (some .int)) (by decide) rfl ?_
  intro p e s m args below meth c s₁ B hml hv
  obtain ⟨rfl, hsz, hP, hK, hD0⟩ := hv
  have hx := B.exec
  have hb := B.bytes
  have hr := B.returns
  have hts := atoms_spec (ws := wsX4_thrown) B.pre
  have hown : s.vm.findClass RX4 = some m.cls := findClass_of_methodNamed B.named
  have hlocks := B.notSynchronized
  subst hsz
  have hD := hD0.self (sz := s.heap.size)
  generalize hAe : va_A [(mo, .inr (3, [.int tv, .int (nI (2 ^ k)), .ref ma, .ref mb, .int (nI rs), .ref lo, .ref hi, .ref kp, .ref ot, .ref su]))] s.heap.size = A at hD ⊢
  have hA : ∀ q : Nat, s.heap.size ≤ q → A q := fun q h => by rw [← hAe]; exact Or.inr h
  have hS : va_S A s.heap s.heap [] := va_S.rf
  have hP : va_P (dC, dI) vwCl [(mo, .inr (3, [.int tv, .int (nI (2 ^ k)), .ref ma, .ref mb, .int (nI rs), .ref lo, .ref hi, .ref kp, .ref ot, .ref su]))] s.heap := hP
  have hl := lv_entry (([.ref mo] : List Value)) (n := 1) (Nat.le_of_ble_eq_true rfl)
  rw [lg_entry_eq]
  generalize (lg_sl (([.ref mo] : List Value)) ++ List.replicate (1 - (lg_sl (([.ref mo] : List Value))).length) Slot.unset).toArray = ls at hl ⊢
  have hl : lv_has ls 1 [(0, .ref mo)] := hl
  obtain ⟨H, hHe⟩ : ∃ H : Heap, H = s.heap := ⟨_, rfl⟩
  rw [← hHe] at hP
  have hS : va_S A s.heap H [] := by rw [hHe]; exact hS
  obtain ⟨locs, hlo⟩ : ∃ L : List Loc, L = [] := ⟨_, rfl⟩
  rw [← hlo] at hS ⊢
  rw [← hHe]
  refine lv_aload_n hx hb dX4_thrown_0 rfl (lv_at hl 0 rfl) ?_
  refine va_get (D := (dC, dI)) (ci := 3) (v := .int tv) (C := RX4) (T := TX4) (N := 10) hx hb hts (by decide +kernel) hown hK hP 0 rfl rfl 0 (by decide) (hts (.fieldLink RX4 36 "ThreePrimesModel" "thrown" "I") (by decide +kernel)) (fun _ h9 => h9) rfl dX4_thrown_1 ?_
  have hP9 : va_P (dC, dI) vwCl [(mo, .inr (3, [.int tv, .int (nI (2 ^ k)), .ref ma, .ref mb, .int (nI rs), .ref lo, .ref hi, .ref kp, .ref ot, .ref su]))] H := hP.sub [0] rfl
  have hD9 : va_D A [(mo, .inr (3, [.int tv, .int (nI (2 ^ k)), .ref ma, .ref mb, .int (nI rs), .ref lo, .ref hi, .ref kp, .ref ot, .ref su]))] := hD.sub [0] (by decide) rfl
  exact W.iret (v := tv) hx hb hr (fun tq9 ht hW => ⟨⟨tv, (), rfl, rfl, by rw [ht]; exact hP9, hD9⟩, hS.F ht⟩) hS.2.2 dX4_thrown_4

abbrev q_X4_noPlace_ok (dC : Nat → ClassId) (dI : Nat → Nat → Nat) (mo ma mb lo hi kp ot su k rs : Nat) (tv : Int32) (j : Nat) (A : Nat → Prop) : Array Value → State → Outcome → State → Prop := va_Qi (fun (r : Int32) (u : Unit) => r = nI 0) (fun u t => va_P (dC, dI) vwCl [(mo, .inr (3, [.int (nI 0), .int (nI (2 ^ k)), .ref ma, .ref mb, .int (nI rs), .ref lo, .ref hi, .ref kp, .ref ot, .ref su]))] t.heap ∧ va_D A [(mo, .inr (3, [.int (nI 0), .int (nI (2 ^ k)), .ref ma, .ref mb, .int (nI rs), .ref lo, .ref hi, .ref kp, .ref ot, .ref su]))]) A
set_option maxHeartbeats 4000000 in
set_option maxRecDepth 100000 in
theorem c_X4_noPlace_ok (l : Launch) (dC : Nat → ClassId) (dI : Nat → Nat → Nat) (mo ma mb lo hi kp ot su k rs : Nat) (tv : Int32) (j : Nat) (sz : Nat) (zk1 : 1 ≤ k) (zk : k ≤ 8) (zj : j < 2 ^ k) : Met l yX4_noPlace wsX4_noPlace ({ frames := 0, cells := 0, slots := 0, locals := 0 }) (va_Pc [.ref mo, .int (nI j)] (fun U => U.heap.size = sz ∧ va_P (dC, dI) vwCl [(mo, .inr (3, [.int tv, .int (nI (2 ^ k)), .ref ma, .ref mb, .int (nI rs), .ref lo, .ref hi, .ref kp, .ref ot, .ref su]))] U.heap ∧ va_K (dC, dI) vwCl [] U ∧ va_D (fun _ => True) [(mo, .inr (3, [.int tv, .int (nI (2 ^ k)), .ref ma, .ref mb, .int (nI rs), .ref lo, .ref hi, .ref kp, .ref ot, .ref su]))])) (q_X4_noPlace_ok dC dI mo ma mb lo hi kp ot su k rs tv j (va_A [(mo, .inr (3, [.int tv, .int (nI (2 ^ k)), .ref ma, .ref mb, .int (nI rs), .ref lo, .ref hi, .ref kp, .ref ot, .ref su]))] sz)) 0 0 (va_A [(mo, .inr (3, [.int tv, .int (nI (2 ^ k)), .ref ma, .ref mb, .int (nI rs), .ref lo, .ref hi, .ref kp, .ref ot, .ref su]))] sz) := by
  refine Met.ofW (cc := cX4_noPlace) (maxL := 2) (ret := (some .boolean)) (by decide) rfl ?_
  intro p e s m args below meth c s₁ B hml hv
  obtain ⟨rfl, hsz, hP, hK, hD0⟩ := hv
  have hx := B.exec
  have hb := B.bytes
  have hr := B.returns
  have hts := atoms_spec (ws := wsX4_noPlace) B.pre
  have hown : s.vm.findClass RX4 = some m.cls := findClass_of_methodNamed B.named
  have hlocks := B.notSynchronized
  subst hsz
  have hD := hD0.self (sz := s.heap.size)
  generalize hAe : va_A [(mo, .inr (3, [.int tv, .int (nI (2 ^ k)), .ref ma, .ref mb, .int (nI rs), .ref lo, .ref hi, .ref kp, .ref ot, .ref su]))] s.heap.size = A at hD ⊢
  have hA : ∀ q : Nat, s.heap.size ≤ q → A q := fun q h => by rw [← hAe]; exact Or.inr h
  have hS : va_S A s.heap s.heap [] := va_S.rf
  have hP : va_P (dC, dI) vwCl [(mo, .inr (3, [.int tv, .int (nI (2 ^ k)), .ref ma, .ref mb, .int (nI rs), .ref lo, .ref hi, .ref kp, .ref ot, .ref su]))] s.heap := hP
  have hl := lv_entry (([.ref mo, .int (nI j)] : List Value)) (n := 2) (Nat.le_of_ble_eq_true rfl)
  rw [lg_entry_eq]
  generalize (lg_sl (([.ref mo, .int (nI j)] : List Value)) ++ List.replicate (2 - (lg_sl (([.ref mo, .int (nI j)] : List Value))).length) Slot.unset).toArray = ls at hl ⊢
  have hl : lv_has ls 2 [(0, .ref mo), (1, .int (nI j))] := hl
  obtain ⟨H, hHe⟩ : ∃ H : Heap, H = s.heap := ⟨_, rfl⟩
  rw [← hHe] at hP
  have hS : va_S A s.heap H [] := by rw [hHe]; exact hS
  obtain ⟨locs, hlo⟩ : ∃ L : List Loc, L = [] := ⟨_, rfl⟩
  rw [← hlo] at hS ⊢
  rw [← hHe]
  have hpk := pw8 zk
  refine lv_aload_n hx hb dX4_noPlace_0 rfl (lv_at hl 0 rfl) ?_
  refine lv_iload_n hx hb dX4_noPlace_1 rfl (lv_at hl 1 rfl) ?_
  refine lv_if_lt (tgt := 13) hx hb dX4_noPlace_2 (by decide) (fun c_1 => ?_) (fun c_1 => ?_)
  · have c_1 : j < 0 := (nI_ltI (a := j) (b := 0) (by omega) (by omega)).mp c_1
    omega
  · have c_1 : ¬ (j < 0) := fun zq9 => c_1 ((nI_ltI (a := j) (b := 0) (by omega) (by omega)).mpr zq9)
    refine lv_iload_n hx hb dX4_noPlace_5 rfl (lv_at hl 1 rfl) ?_
    refine lv_aload_n hx hb dX4_noPlace_6 rfl (lv_at hl 0 rfl) ?_
    refine va_get (D := (dC, dI)) (ci := 3) (v := .int (nI (2 ^ k))) (C := RX4) (T := TX4) (N := 10) hx hb hts (by decide +kernel) hown hK hP 0 rfl rfl 1 (by decide) (hts (.fieldLink RX4 7 "ThreePrimesModel" "n" "I") (by decide +kernel)) (fun _ h9 => h9) rfl dX4_noPlace_7 ?_
    refine lv_icmp_lt (tgt := 17) hx hb dX4_noPlace_10 (by decide) (fun c_2 => ?_) (fun c_2 => ?_)
    · have c_2 : j < 2 ^ k := (nI_ltI (a := j) (b := 2 ^ k) (by omega) (by omega)).mp c_2
      refine lv_iconst (v := nI 0) hx hb dX4_noPlace_17 (by decide) ?_
      refine va_put (D := (dC, dI)) (ci := 3) (v := .int (nI 0)) (ty := .int) (C := RX4) (T := TX4) (N := 10) hx hb hts (by decide +kernel) tyX4 tyX4_ok nmX4 hown hK hP hD hS 0 rfl rfl 0 (by decide) (hts (.fieldLink RX4 36 "ThreePrimesModel" "thrown" "I") (by decide +kernel)) (fun _ h9 => h9) rfl (by decide +kernel) rfl rfl (Nat.le_of_ble_eq_true rfl) dX4_noPlace_18 (fun H locs hP hD hS => ?_)
      have hP : va_P (dC, dI) vwCl [(mo, .inr (3, [.int (nI 0), .int (nI (2 ^ k)), .ref ma, .ref mb, .int (nI rs), .ref lo, .ref hi, .ref kp, .ref ot, .ref su]))] H := hP
      have hD : va_D A [(mo, .inr (3, [.int (nI 0), .int (nI (2 ^ k)), .ref ma, .ref mb, .int (nI rs), .ref lo, .ref hi, .ref kp, .ref ot, .ref su]))] := hD
      refine lv_aload_n hx hb dX4_noPlace_21 rfl (lv_at hl 0 rfl) ?_
      refine va_get (D := (dC, dI)) (ci := 3) (v := .int (nI 0)) (C := RX4) (T := TX4) (N := 10) hx hb hts (by decide +kernel) hown hK hP 0 rfl rfl 0 (by decide) (hts (.fieldLink RX4 36 "ThreePrimesModel" "thrown" "I") (by decide +kernel)) (fun _ h9 => h9) rfl dX4_noPlace_22 ?_
      refine lv_if_le (tgt := 32) hx hb dX4_noPlace_25 (by decide) (fun c_3 => ?_) (fun c_3 => ?_)
      · have c_3 : 0 ≤ 0 := (nI_leI (a := 0) (b := 0) (by omega) (by omega)).mp c_3
        refine lv_iconst (v := nI 0) hx hb dX4_noPlace_32 (by decide) ?_
        have hP9 : va_P (dC, dI) vwCl [(mo, .inr (3, [.int (nI 0), .int (nI (2 ^ k)), .ref ma, .ref mb, .int (nI rs), .ref lo, .ref hi, .ref kp, .ref ot, .ref su]))] H := hP.sub [0] rfl
        have hD9 : va_D A [(mo, .inr (3, [.int (nI 0), .int (nI (2 ^ k)), .ref ma, .ref mb, .int (nI rs), .ref lo, .ref hi, .ref kp, .ref ot, .ref su]))] := hD.sub [0] (by decide) rfl
        exact W.zret (v := nI 0) hx hb hr (by decide) (fun tq9 ht hW => ⟨⟨nI 0, (), rfl, rfl, by rw [ht]; exact hP9, hD9⟩, hS.F ht⟩) hS.2.2 dX4_noPlace_33
      · have c_3 : ¬ (0 ≤ 0) := fun zq9 => c_3 ((nI_leI (a := 0) (b := 0) (by omega) (by omega)).mpr zq9)
        omega
    · have c_2 : ¬ (j < 2 ^ k) := fun zq9 => c_2 ((nI_ltI (a := j) (b := 2 ^ k) (by omega) (by omega)).mpr zq9)
      omega

abbrev q_X4_noPlace_bad (dC : Nat → ClassId) (dI : Nat → Nat → Nat) (mo ma mb lo hi kp ot su k rs : Nat) (tv : Int32) (i : Int32) (A : Nat → Prop) : Array Value → State → Outcome → State → Prop := va_Qi (fun (r : Int32) (u : Unit) => r = nI 1) (fun u t => va_P (dC, dI) vwCl [(mo, .inr (3, [.int (nI 1), .int (nI (2 ^ k)), .ref ma, .ref mb, .int (nI rs), .ref lo, .ref hi, .ref kp, .ref ot, .ref su]))] t.heap ∧ va_D A [(mo, .inr (3, [.int (nI 1), .int (nI (2 ^ k)), .ref ma, .ref mb, .int (nI rs), .ref lo, .ref hi, .ref kp, .ref ot, .ref su]))]) A
set_option maxHeartbeats 4000000 in
set_option maxRecDepth 100000 in
theorem c_X4_noPlace_bad (l : Launch) (dC : Nat → ClassId) (dI : Nat → Nat → Nat) (mo ma mb lo hi kp ot su k rs : Nat) (tv : Int32) (i : Int32) (sz : Nat) (zk1 : 1 ≤ k) (zk : k ≤ 8) (hbad : i < 0 ∨ nI (2 ^ k) ≤ i) : Met l yX4_noPlace wsX4_noPlace ({ frames := 0, cells := 0, slots := 0, locals := 0 }) (va_Pc [.ref mo, .int i] (fun U => U.heap.size = sz ∧ va_P (dC, dI) vwCl [(mo, .inr (3, [.int tv, .int (nI (2 ^ k)), .ref ma, .ref mb, .int (nI rs), .ref lo, .ref hi, .ref kp, .ref ot, .ref su]))] U.heap ∧ va_K (dC, dI) vwCl [] U ∧ va_D (fun _ => True) [(mo, .inr (3, [.int tv, .int (nI (2 ^ k)), .ref ma, .ref mb, .int (nI rs), .ref lo, .ref hi, .ref kp, .ref ot, .ref su]))])) (q_X4_noPlace_bad dC dI mo ma mb lo hi kp ot su k rs tv i (va_A [(mo, .inr (3, [.int tv, .int (nI (2 ^ k)), .ref ma, .ref mb, .int (nI rs), .ref lo, .ref hi, .ref kp, .ref ot, .ref su]))] sz)) 0 0 (va_A [(mo, .inr (3, [.int tv, .int (nI (2 ^ k)), .ref ma, .ref mb, .int (nI rs), .ref lo, .ref hi, .ref kp, .ref ot, .ref su]))] sz) := by
  refine Met.ofW (cc := cX4_noPlace) (maxL := 2) (ret := (some .boolean)) (by decide) rfl ?_
  intro p e s m args below meth c s₁ B hml hv
  obtain ⟨rfl, hsz, hP, hK, hD0⟩ := hv
  have hx := B.exec
  have hb := B.bytes
  have hr := B.returns
  have hts := atoms_spec (ws := wsX4_noPlace) B.pre
  have hown : s.vm.findClass RX4 = some m.cls := findClass_of_methodNamed B.named
  have hlocks := B.notSynchronized
  subst hsz
  have hD := hD0.self (sz := s.heap.size)
  generalize hAe : va_A [(mo, .inr (3, [.int tv, .int (nI (2 ^ k)), .ref ma, .ref mb, .int (nI rs), .ref lo, .ref hi, .ref kp, .ref ot, .ref su]))] s.heap.size = A at hD ⊢
  have hA : ∀ q : Nat, s.heap.size ≤ q → A q := fun q h => by rw [← hAe]; exact Or.inr h
  have hS : va_S A s.heap s.heap [] := va_S.rf
  have hP : va_P (dC, dI) vwCl [(mo, .inr (3, [.int tv, .int (nI (2 ^ k)), .ref ma, .ref mb, .int (nI rs), .ref lo, .ref hi, .ref kp, .ref ot, .ref su]))] s.heap := hP
  have hl := lv_entry (([.ref mo, .int i] : List Value)) (n := 2) (Nat.le_of_ble_eq_true rfl)
  rw [lg_entry_eq]
  generalize (lg_sl (([.ref mo, .int i] : List Value)) ++ List.replicate (2 - (lg_sl (([.ref mo, .int i] : List Value))).length) Slot.unset).toArray = ls at hl ⊢
  have hl : lv_has ls 2 [(0, .ref mo), (1, .int i)] := hl
  obtain ⟨H, hHe⟩ : ∃ H : Heap, H = s.heap := ⟨_, rfl⟩
  rw [← hHe] at hP
  have hS : va_S A s.heap H [] := by rw [hHe]; exact hS
  obtain ⟨locs, hlo⟩ : ∃ L : List Loc, L = [] := ⟨_, rfl⟩
  rw [← hlo] at hS ⊢
  rw [← hHe]
  have hpk := pw8 zk
  refine lv_aload_n hx hb dX4_noPlace_0 rfl (lv_at hl 0 rfl) ?_
  refine lv_iload_n hx hb dX4_noPlace_1 rfl (lv_at hl 1 rfl) ?_
  refine lv_if_lt (tgt := 13) hx hb dX4_noPlace_2 (by decide) (fun c_1 => ?_) (fun c_1 => ?_)
  · refine lv_iconst (v := nI 1) hx hb dX4_noPlace_13 (by decide) ?_
    refine lv_goto (tgt := 18) hx hb dX4_noPlace_14 (by decide) ?_
    refine va_put (D := (dC, dI)) (ci := 3) (v := .int (nI 1)) (ty := .int) (C := RX4) (T := TX4) (N := 10) hx hb hts (by decide +kernel) tyX4 tyX4_ok nmX4 hown hK hP hD hS 0 rfl rfl 0 (by decide) (hts (.fieldLink RX4 36 "ThreePrimesModel" "thrown" "I") (by decide +kernel)) (fun _ h9 => h9) rfl (by decide +kernel) rfl rfl (Nat.le_of_ble_eq_true rfl) dX4_noPlace_18 (fun H locs hP hD hS => ?_)
    have hP : va_P (dC, dI) vwCl [(mo, .inr (3, [.int (nI 1), .int (nI (2 ^ k)), .ref ma, .ref mb, .int (nI rs), .ref lo, .ref hi, .ref kp, .ref ot, .ref su]))] H := hP
    have hD : va_D A [(mo, .inr (3, [.int (nI 1), .int (nI (2 ^ k)), .ref ma, .ref mb, .int (nI rs), .ref lo, .ref hi, .ref kp, .ref ot, .ref su]))] := hD
    refine lv_aload_n hx hb dX4_noPlace_21 rfl (lv_at hl 0 rfl) ?_
    refine va_get (D := (dC, dI)) (ci := 3) (v := .int (nI 1)) (C := RX4) (T := TX4) (N := 10) hx hb hts (by decide +kernel) hown hK hP 0 rfl rfl 0 (by decide) (hts (.fieldLink RX4 36 "ThreePrimesModel" "thrown" "I") (by decide +kernel)) (fun _ h9 => h9) rfl dX4_noPlace_22 ?_
    refine lv_if_le (tgt := 32) hx hb dX4_noPlace_25 (by decide) (fun c_2 => ?_) (fun c_2 => ?_)
    · have c_2 : 1 ≤ 0 := (nI_leI (a := 1) (b := 0) (by omega) (by omega)).mp c_2
      omega
    · have c_2 : ¬ (1 ≤ 0) := fun zq9 => c_2 ((nI_leI (a := 1) (b := 0) (by omega) (by omega)).mpr zq9)
      refine lv_iconst (v := nI 1) hx hb dX4_noPlace_28 (by decide) ?_
      refine lv_goto (tgt := 33) hx hb dX4_noPlace_29 (by decide) ?_
      have hP9 : va_P (dC, dI) vwCl [(mo, .inr (3, [.int (nI 1), .int (nI (2 ^ k)), .ref ma, .ref mb, .int (nI rs), .ref lo, .ref hi, .ref kp, .ref ot, .ref su]))] H := hP.sub [0] rfl
      have hD9 : va_D A [(mo, .inr (3, [.int (nI 1), .int (nI (2 ^ k)), .ref ma, .ref mb, .int (nI rs), .ref lo, .ref hi, .ref kp, .ref ot, .ref su]))] := hD.sub [0] (by decide) rfl
      exact W.zret (v := nI 1) hx hb hr (by decide) (fun tq9 ht hW => ⟨⟨nI 1, (), rfl, rfl, by rw [ht]; exact hP9, hD9⟩, hS.F ht⟩) hS.2.2 dX4_noPlace_33
  · refine lv_iload_n hx hb dX4_noPlace_5 rfl (lv_at hl 1 rfl) ?_
    refine lv_aload_n hx hb dX4_noPlace_6 rfl (lv_at hl 0 rfl) ?_
    refine va_get (D := (dC, dI)) (ci := 3) (v := .int (nI (2 ^ k))) (C := RX4) (T := TX4) (N := 10) hx hb hts (by decide +kernel) hown hK hP 0 rfl rfl 1 (by decide) (hts (.fieldLink RX4 7 "ThreePrimesModel" "n" "I") (by decide +kernel)) (fun _ h9 => h9) rfl dX4_noPlace_7 ?_
    refine lv_icmp_lt (tgt := 17) hx hb dX4_noPlace_10 (by decide) (fun c_3 => ?_) (fun c_3 => ?_)
    · exact absurd c_3 (Int32.not_lt.mpr (hbad.resolve_left c_1))
    · refine lv_iconst (v := nI 1) hx hb dX4_noPlace_13 (by decide) ?_
      refine lv_goto (tgt := 18) hx hb dX4_noPlace_14 (by decide) ?_
      refine va_put (D := (dC, dI)) (ci := 3) (v := .int (nI 1)) (ty := .int) (C := RX4) (T := TX4) (N := 10) hx hb hts (by decide +kernel) tyX4 tyX4_ok nmX4 hown hK hP hD hS 0 rfl rfl 0 (by decide) (hts (.fieldLink RX4 36 "ThreePrimesModel" "thrown" "I") (by decide +kernel)) (fun _ h9 => h9) rfl (by decide +kernel) rfl rfl (Nat.le_of_ble_eq_true rfl) dX4_noPlace_18 (fun H locs hP hD hS => ?_)
      have hP : va_P (dC, dI) vwCl [(mo, .inr (3, [.int (nI 1), .int (nI (2 ^ k)), .ref ma, .ref mb, .int (nI rs), .ref lo, .ref hi, .ref kp, .ref ot, .ref su]))] H := hP
      have hD : va_D A [(mo, .inr (3, [.int (nI 1), .int (nI (2 ^ k)), .ref ma, .ref mb, .int (nI rs), .ref lo, .ref hi, .ref kp, .ref ot, .ref su]))] := hD
      refine lv_aload_n hx hb dX4_noPlace_21 rfl (lv_at hl 0 rfl) ?_
      refine va_get (D := (dC, dI)) (ci := 3) (v := .int (nI 1)) (C := RX4) (T := TX4) (N := 10) hx hb hts (by decide +kernel) hown hK hP 0 rfl rfl 0 (by decide) (hts (.fieldLink RX4 36 "ThreePrimesModel" "thrown" "I") (by decide +kernel)) (fun _ h9 => h9) rfl dX4_noPlace_22 ?_
      refine lv_if_le (tgt := 32) hx hb dX4_noPlace_25 (by decide) (fun c_4 => ?_) (fun c_4 => ?_)
      · have c_4 : 1 ≤ 0 := (nI_leI (a := 1) (b := 0) (by omega) (by omega)).mp c_4
        omega
      · have c_4 : ¬ (1 ≤ 0) := fun zq9 => c_4 ((nI_leI (a := 1) (b := 0) (by omega) (by omega)).mpr zq9)
        refine lv_iconst (v := nI 1) hx hb dX4_noPlace_28 (by decide) ?_
        refine lv_goto (tgt := 33) hx hb dX4_noPlace_29 (by decide) ?_
        have hP9 : va_P (dC, dI) vwCl [(mo, .inr (3, [.int (nI 1), .int (nI (2 ^ k)), .ref ma, .ref mb, .int (nI rs), .ref lo, .ref hi, .ref kp, .ref ot, .ref su]))] H := hP.sub [0] rfl
        have hD9 : va_D A [(mo, .inr (3, [.int (nI 1), .int (nI (2 ^ k)), .ref ma, .ref mb, .int (nI rs), .ref lo, .ref hi, .ref kp, .ref ot, .ref su]))] := hD.sub [0] (by decide) rfl
        exact W.zret (v := nI 1) hx hb hr (by decide) (fun tq9 ht hW => ⟨⟨nI 1, (), rfl, rfl, by rw [ht]; exact hP9, hD9⟩, hS.F ht⟩) hS.2.2 dX4_noPlace_33

abbrev q_X4_noResult_ok (dC : Nat → ClassId) (dI : Nat → Nat → Nat) (mo ma mb lo hi kp ot su k rs : Nat) (tv : Int32) (j : Nat) (A : Nat → Prop) : Array Value → State → Outcome → State → Prop := va_Qi (fun (r : Int32) (u : Unit) => r = nI 0) (fun u t => va_P (dC, dI) vwCl [(mo, .inr (3, [.int tv, .int (nI (2 ^ k)), .ref ma, .ref mb, .int (nI rs), .ref lo, .ref hi, .ref kp, .ref ot, .ref su]))] t.heap ∧ va_D A [(mo, .inr (3, [.int tv, .int (nI (2 ^ k)), .ref ma, .ref mb, .int (nI rs), .ref lo, .ref hi, .ref kp, .ref ot, .ref su]))]) A
set_option maxHeartbeats 4000000 in
set_option maxRecDepth 100000 in
theorem c_X4_noResult_ok (l : Launch) (dC : Nat → ClassId) (dI : Nat → Nat → Nat) (mo ma mb lo hi kp ot su k rs : Nat) (tv : Int32) (j : Nat) (sz : Nat) (zj : j < rs) (zrs : rs ≤ 511) : Met l yX4_noResult wsX4_noResult ({ frames := 0, cells := 0, slots := 0, locals := 0 }) (va_Pc [.ref mo, .int (nI j)] (fun U => U.heap.size = sz ∧ va_P (dC, dI) vwCl [(mo, .inr (3, [.int tv, .int (nI (2 ^ k)), .ref ma, .ref mb, .int (nI rs), .ref lo, .ref hi, .ref kp, .ref ot, .ref su]))] U.heap ∧ va_K (dC, dI) vwCl [] U ∧ va_D (fun _ => True) [(mo, .inr (3, [.int tv, .int (nI (2 ^ k)), .ref ma, .ref mb, .int (nI rs), .ref lo, .ref hi, .ref kp, .ref ot, .ref su]))])) (q_X4_noResult_ok dC dI mo ma mb lo hi kp ot su k rs tv j (va_A [(mo, .inr (3, [.int tv, .int (nI (2 ^ k)), .ref ma, .ref mb, .int (nI rs), .ref lo, .ref hi, .ref kp, .ref ot, .ref su]))] sz)) 0 0 (va_A [(mo, .inr (3, [.int tv, .int (nI (2 ^ k)), .ref ma, .ref mb, .int (nI rs), .ref lo, .ref hi, .ref kp, .ref ot, .ref su]))] sz) := by
  refine Met.ofW (cc := cX4_noResult) (maxL := 2) (ret := (some .boolean)) (by decide) rfl ?_
  intro p e s m args below meth c s₁ B hml hv
  obtain ⟨rfl, hsz, hP, hK, hD0⟩ := hv
  have hx := B.exec
  have hb := B.bytes
  have hr := B.returns
  have hts := atoms_spec (ws := wsX4_noResult) B.pre
  have hown : s.vm.findClass RX4 = some m.cls := findClass_of_methodNamed B.named
  have hlocks := B.notSynchronized
  subst hsz
  have hD := hD0.self (sz := s.heap.size)
  generalize hAe : va_A [(mo, .inr (3, [.int tv, .int (nI (2 ^ k)), .ref ma, .ref mb, .int (nI rs), .ref lo, .ref hi, .ref kp, .ref ot, .ref su]))] s.heap.size = A at hD ⊢
  have hA : ∀ q : Nat, s.heap.size ≤ q → A q := fun q h => by rw [← hAe]; exact Or.inr h
  have hS : va_S A s.heap s.heap [] := va_S.rf
  have hP : va_P (dC, dI) vwCl [(mo, .inr (3, [.int tv, .int (nI (2 ^ k)), .ref ma, .ref mb, .int (nI rs), .ref lo, .ref hi, .ref kp, .ref ot, .ref su]))] s.heap := hP
  have hl := lv_entry (([.ref mo, .int (nI j)] : List Value)) (n := 2) (Nat.le_of_ble_eq_true rfl)
  rw [lg_entry_eq]
  generalize (lg_sl (([.ref mo, .int (nI j)] : List Value)) ++ List.replicate (2 - (lg_sl (([.ref mo, .int (nI j)] : List Value))).length) Slot.unset).toArray = ls at hl ⊢
  have hl : lv_has ls 2 [(0, .ref mo), (1, .int (nI j))] := hl
  obtain ⟨H, hHe⟩ : ∃ H : Heap, H = s.heap := ⟨_, rfl⟩
  rw [← hHe] at hP
  have hS : va_S A s.heap H [] := by rw [hHe]; exact hS
  obtain ⟨locs, hlo⟩ : ∃ L : List Loc, L = [] := ⟨_, rfl⟩
  rw [← hlo] at hS ⊢
  rw [← hHe]
  refine lv_iload_n hx hb dX4_noResult_0 rfl (lv_at hl 1 rfl) ?_
  refine lv_if_lt (tgt := 12) hx hb dX4_noResult_1 (by decide) (fun c_1 => ?_) (fun c_1 => ?_)
  · have c_1 : j < 0 := (nI_ltI (a := j) (b := 0) (by omega) (by omega)).mp c_1
    omega
  · have c_1 : ¬ (j < 0) := fun zq9 => c_1 ((nI_ltI (a := j) (b := 0) (by omega) (by omega)).mpr zq9)
    refine lv_iload_n hx hb dX4_noResult_4 rfl (lv_at hl 1 rfl) ?_
    refine lv_aload_n hx hb dX4_noResult_5 rfl (lv_at hl 0 rfl) ?_
    refine va_get (D := (dC, dI)) (ci := 3) (v := .int (nI rs)) (C := RX4) (T := TX4) (N := 10) hx hb hts (by decide +kernel) hown hK hP 0 rfl rfl 4 (by decide) (hts (.fieldLink RX4 39 "ThreePrimesModel" "results" "I") (by decide +kernel)) (fun _ h9 => h9) rfl dX4_noResult_6 ?_
    refine lv_icmp_lt (tgt := 16) hx hb dX4_noResult_9 (by decide) (fun c_2 => ?_) (fun c_2 => ?_)
    · have c_2 : j < rs := (nI_ltI (a := j) (b := rs) (by omega) (by omega)).mp c_2
      refine lv_iconst (v := nI 0) hx hb dX4_noResult_16 (by decide) ?_
      have hP9 : va_P (dC, dI) vwCl [(mo, .inr (3, [.int tv, .int (nI (2 ^ k)), .ref ma, .ref mb, .int (nI rs), .ref lo, .ref hi, .ref kp, .ref ot, .ref su]))] H := hP.sub [0] rfl
      have hD9 : va_D A [(mo, .inr (3, [.int tv, .int (nI (2 ^ k)), .ref ma, .ref mb, .int (nI rs), .ref lo, .ref hi, .ref kp, .ref ot, .ref su]))] := hD.sub [0] (by decide) rfl
      exact W.zret (v := nI 0) hx hb hr (by decide) (fun tq9 ht hW => ⟨⟨nI 0, (), rfl, rfl, by rw [ht]; exact hP9, hD9⟩, hS.F ht⟩) hS.2.2 dX4_noResult_17
    · have c_2 : ¬ (j < rs) := fun zq9 => c_2 ((nI_ltI (a := j) (b := rs) (by omega) (by omega)).mpr zq9)
      omega

abbrev q_X4_noResult_bad (dC : Nat → ClassId) (dI : Nat → Nat → Nat) (mo ma mb lo hi kp ot su k rs : Nat) (tv : Int32) (i : Int32) (A : Nat → Prop) : Array Value → State → Outcome → State → Prop := va_Qi (fun (r : Int32) (u : Unit) => r = nI 1) (fun u t => va_P (dC, dI) vwCl [(mo, .inr (3, [.int tv, .int (nI (2 ^ k)), .ref ma, .ref mb, .int (nI rs), .ref lo, .ref hi, .ref kp, .ref ot, .ref su]))] t.heap ∧ va_D A [(mo, .inr (3, [.int tv, .int (nI (2 ^ k)), .ref ma, .ref mb, .int (nI rs), .ref lo, .ref hi, .ref kp, .ref ot, .ref su]))]) A
set_option maxHeartbeats 4000000 in
set_option maxRecDepth 100000 in
theorem c_X4_noResult_bad (l : Launch) (dC : Nat → ClassId) (dI : Nat → Nat → Nat) (mo ma mb lo hi kp ot su k rs : Nat) (tv : Int32) (i : Int32) (sz : Nat) (hbad : i < 0 ∨ nI rs ≤ i) : Met l yX4_noResult wsX4_noResult ({ frames := 0, cells := 0, slots := 0, locals := 0 }) (va_Pc [.ref mo, .int i] (fun U => U.heap.size = sz ∧ va_P (dC, dI) vwCl [(mo, .inr (3, [.int tv, .int (nI (2 ^ k)), .ref ma, .ref mb, .int (nI rs), .ref lo, .ref hi, .ref kp, .ref ot, .ref su]))] U.heap ∧ va_K (dC, dI) vwCl [] U ∧ va_D (fun _ => True) [(mo, .inr (3, [.int tv, .int (nI (2 ^ k)), .ref ma, .ref mb, .int (nI rs), .ref lo, .ref hi, .ref kp, .ref ot, .ref su]))])) (q_X4_noResult_bad dC dI mo ma mb lo hi kp ot su k rs tv i (va_A [(mo, .inr (3, [.int tv, .int (nI (2 ^ k)), .ref ma, .ref mb, .int (nI rs), .ref lo, .ref hi, .ref kp, .ref ot, .ref su]))] sz)) 0 0 (va_A [(mo, .inr (3, [.int tv, .int (nI (2 ^ k)), .ref ma, .ref mb, .int (nI rs), .ref lo, .ref hi, .ref kp, .ref ot, .ref su]))] sz) := by
  refine Met.ofW (cc := cX4_noResult) (maxL := 2) (ret := (some .boolean)) (by decide) rfl ?_
  intro p e s m args below meth c s₁ B hml hv
  obtain ⟨rfl, hsz, hP, hK, hD0⟩ := hv
  have hx := B.exec
  have hb := B.bytes
  have hr := B.returns
  have hts := atoms_spec (ws := wsX4_noResult) B.pre
  have hown : s.vm.findClass RX4 = some m.cls := findClass_of_methodNamed B.named
  have hlocks := B.notSynchronized
  subst hsz
  have hD := hD0.self (sz := s.heap.size)
  generalize hAe : va_A [(mo, .inr (3, [.int tv, .int (nI (2 ^ k)), .ref ma, .ref mb, .int (nI rs), .ref lo, .ref hi, .ref kp, .ref ot, .ref su]))] s.heap.size = A at hD ⊢
  have hA : ∀ q : Nat, s.heap.size ≤ q → A q := fun q h => by rw [← hAe]; exact Or.inr h
  have hS : va_S A s.heap s.heap [] := va_S.rf
  have hP : va_P (dC, dI) vwCl [(mo, .inr (3, [.int tv, .int (nI (2 ^ k)), .ref ma, .ref mb, .int (nI rs), .ref lo, .ref hi, .ref kp, .ref ot, .ref su]))] s.heap := hP
  have hl := lv_entry (([.ref mo, .int i] : List Value)) (n := 2) (Nat.le_of_ble_eq_true rfl)
  rw [lg_entry_eq]
  generalize (lg_sl (([.ref mo, .int i] : List Value)) ++ List.replicate (2 - (lg_sl (([.ref mo, .int i] : List Value))).length) Slot.unset).toArray = ls at hl ⊢
  have hl : lv_has ls 2 [(0, .ref mo), (1, .int i)] := hl
  obtain ⟨H, hHe⟩ : ∃ H : Heap, H = s.heap := ⟨_, rfl⟩
  rw [← hHe] at hP
  have hS : va_S A s.heap H [] := by rw [hHe]; exact hS
  obtain ⟨locs, hlo⟩ : ∃ L : List Loc, L = [] := ⟨_, rfl⟩
  rw [← hlo] at hS ⊢
  rw [← hHe]
  refine lv_iload_n hx hb dX4_noResult_0 rfl (lv_at hl 1 rfl) ?_
  refine lv_if_lt (tgt := 12) hx hb dX4_noResult_1 (by decide) (fun c_1 => ?_) (fun c_1 => ?_)
  · refine lv_iconst (v := nI 1) hx hb dX4_noResult_12 (by decide) ?_
    refine lv_goto (tgt := 17) hx hb dX4_noResult_13 (by decide) ?_
    have hP9 : va_P (dC, dI) vwCl [(mo, .inr (3, [.int tv, .int (nI (2 ^ k)), .ref ma, .ref mb, .int (nI rs), .ref lo, .ref hi, .ref kp, .ref ot, .ref su]))] H := hP.sub [0] rfl
    have hD9 : va_D A [(mo, .inr (3, [.int tv, .int (nI (2 ^ k)), .ref ma, .ref mb, .int (nI rs), .ref lo, .ref hi, .ref kp, .ref ot, .ref su]))] := hD.sub [0] (by decide) rfl
    exact W.zret (v := nI 1) hx hb hr (by decide) (fun tq9 ht hW => ⟨⟨nI 1, (), rfl, rfl, by rw [ht]; exact hP9, hD9⟩, hS.F ht⟩) hS.2.2 dX4_noResult_17
  · refine lv_iload_n hx hb dX4_noResult_4 rfl (lv_at hl 1 rfl) ?_
    refine lv_aload_n hx hb dX4_noResult_5 rfl (lv_at hl 0 rfl) ?_
    refine va_get (D := (dC, dI)) (ci := 3) (v := .int (nI rs)) (C := RX4) (T := TX4) (N := 10) hx hb hts (by decide +kernel) hown hK hP 0 rfl rfl 4 (by decide) (hts (.fieldLink RX4 39 "ThreePrimesModel" "results" "I") (by decide +kernel)) (fun _ h9 => h9) rfl dX4_noResult_6 ?_
    refine lv_icmp_lt (tgt := 16) hx hb dX4_noResult_9 (by decide) (fun c_2 => ?_) (fun c_2 => ?_)
    · exact absurd c_2 (Int32.not_lt.mpr (hbad.resolve_left c_1))
    · refine lv_iconst (v := nI 1) hx hb dX4_noResult_12 (by decide) ?_
      refine lv_goto (tgt := 17) hx hb dX4_noResult_13 (by decide) ?_
      have hP9 : va_P (dC, dI) vwCl [(mo, .inr (3, [.int tv, .int (nI (2 ^ k)), .ref ma, .ref mb, .int (nI rs), .ref lo, .ref hi, .ref kp, .ref ot, .ref su]))] H := hP.sub [0] rfl
      have hD9 : va_D A [(mo, .inr (3, [.int tv, .int (nI (2 ^ k)), .ref ma, .ref mb, .int (nI rs), .ref lo, .ref hi, .ref kp, .ref ot, .ref su]))] := hD.sub [0] (by decide) rfl
      exact W.zret (v := nI 1) hx hb hr (by decide) (fun tq9 ht hW => ⟨⟨nI 1, (), rfl, rfl, by rw [ht]; exact hP9, hD9⟩, hS.F ht⟩) hS.2.2 dX4_noResult_17

abbrev q_X4_setA_ok (dC : Nat → ClassId) (dI : Nat → Nat → Nat) (mo ma mb lo hi kp ot su k rs : Nat) (tv : Int32) (cI : ClassId) (fa : Nat → Int32) (j : Nat) (v : Int32) (A : Nat → Prop) : Array Value → State → Outcome → State → Prop := va_Qi (fun (r : Int32) (u : Unit) => r = fa j) (fun u t => va_P (dC, dI) vwCl [(mo, .inr (3, [.int (nI 0), .int (nI (2 ^ k)), .ref ma, .ref mb, .int (nI rs), .ref lo, .ref hi, .ref kp, .ref ot, .ref su])), (ma, .inl (cI, 256, .inl (upd fa j v)))] t.heap ∧ va_D A [(mo, .inr (3, [.int (nI 0), .int (nI (2 ^ k)), .ref ma, .ref mb, .int (nI rs), .ref lo, .ref hi, .ref kp, .ref ot, .ref su])), (ma, .inl (cI, 256, .inl (upd fa j v)))]) A
set_option maxHeartbeats 4000000 in
set_option maxRecDepth 100000 in
theorem c_X4_setA_ok (l : Launch) (dC : Nat → ClassId) (dI : Nat → Nat → Nat) (mo ma mb lo hi kp ot su k rs : Nat) (tv : Int32) (cI : ClassId) (fa : Nat → Int32) (j : Nat) (v : Int32) (sz : Nat) (zk1 : 1 ≤ k) (zk : k ≤ 8) (zj : j < 2 ^ k) : Met l yX4_setA wsX4_setA ({ frames := 1, cells := 0, slots := 0, locals := 21 }) (va_Pc [.ref mo, .int (nI j), .int v] (fun U => U.heap.size = sz ∧ va_P (dC, dI) vwCl [(mo, .inr (3, [.int tv, .int (nI (2 ^ k)), .ref ma, .ref mb, .int (nI rs), .ref lo, .ref hi, .ref kp, .ref ot, .ref su])), (ma, .inl (cI, 256, .inl fa))] U.heap ∧ va_K (dC, dI) vwCl [(cI, .int)] U ∧ va_D (fun _ => True) [(mo, .inr (3, [.int tv, .int (nI (2 ^ k)), .ref ma, .ref mb, .int (nI rs), .ref lo, .ref hi, .ref kp, .ref ot, .ref su])), (ma, .inl (cI, 256, .inl fa))])) (q_X4_setA_ok dC dI mo ma mb lo hi kp ot su k rs tv cI fa j v (va_A [(mo, .inr (3, [.int tv, .int (nI (2 ^ k)), .ref ma, .ref mb, .int (nI rs), .ref lo, .ref hi, .ref kp, .ref ot, .ref su])), (ma, .inl (cI, 256, .inl fa))] sz)) 0 0 (va_A [(mo, .inr (3, [.int tv, .int (nI (2 ^ k)), .ref ma, .ref mb, .int (nI rs), .ref lo, .ref hi, .ref kp, .ref ot, .ref su])), (ma, .inl (cI, 256, .inl fa))] sz) := by
  refine Met.ofW (cc := cX4_setA) (maxL := 4) (ret := (some .int)) (by decide) rfl ?_
  intro p e s m args below meth c s₁ B hml hv
  obtain ⟨rfl, hsz, hP, hK, hD0⟩ := hv
  have hx := B.exec
  have hb := B.bytes
  have hr := B.returns
  have hts := atoms_spec (ws := wsX4_setA) B.pre
  have hown : s.vm.findClass RX4 = some m.cls := findClass_of_methodNamed B.named
  have hlocks := B.notSynchronized
  subst hsz
  have hD := hD0.self (sz := s.heap.size)
  generalize hAe : va_A [(mo, .inr (3, [.int tv, .int (nI (2 ^ k)), .ref ma, .ref mb, .int (nI rs), .ref lo, .ref hi, .ref kp, .ref ot, .ref su])), (ma, .inl (cI, 256, .inl fa))] s.heap.size = A at hD ⊢
  have hA : ∀ q : Nat, s.heap.size ≤ q → A q := fun q h => by rw [← hAe]; exact Or.inr h
  have hS : va_S A s.heap s.heap [] := va_S.rf
  have hP : va_P (dC, dI) vwCl [(mo, .inr (3, [.int tv, .int (nI (2 ^ k)), .ref ma, .ref mb, .int (nI rs), .ref lo, .ref hi, .ref kp, .ref ot, .ref su])), (ma, .inl (cI, 256, .inl fa))] s.heap := hP
  have hl := lv_entry (([.ref mo, .int (nI j), .int v] : List Value)) (n := 4) (Nat.le_of_ble_eq_true rfl)
  rw [lg_entry_eq]
  generalize (lg_sl (([.ref mo, .int (nI j), .int v] : List Value)) ++ List.replicate (4 - (lg_sl (([.ref mo, .int (nI j), .int v] : List Value))).length) Slot.unset).toArray = ls at hl ⊢
  have hl : lv_has ls 4 [(0, .ref mo), (1, .int (nI j)), (2, .int v)] := hl
  obtain ⟨H, hHe⟩ : ∃ H : Heap, H = s.heap := ⟨_, rfl⟩
  rw [← hHe] at hP
  have hS : va_S A s.heap H [] := by rw [hHe]; exact hS
  obtain ⟨locs, hlo⟩ : ∃ L : List Loc, L = [] := ⟨_, rfl⟩
  rw [← hlo] at hS ⊢
  rw [← hHe]
  have hpk := pw8 zk
  refine lv_aload_n hx hb dX4_setA_0 rfl (lv_at hl 0 rfl) ?_
  refine lv_iload_n hx hb dX4_setA_1 rfl (lv_at hl 1 rfl) ?_
  have hPc := hP.sub (ws' := [(mo, .inr (3, [.int tv, .int (nI (2 ^ k)), .ref ma, .ref mb, .int (nI rs), .ref lo, .ref hi, .ref kp, .ref ot, .ref su]))]) [0] rfl
  have hDc := hD.sub (ws' := [(mo, .inr (3, [.int tv, .int (nI (2 ^ k)), .ref ma, .ref mb, .int (nI rs), .ref lo, .ref hi, .ref kp, .ref ot, .ref su]))]) [0] (by decide) rfl
  have hKc := hK.sub (tys' := []) [] rfl
  have hFc := va_free (wc := [(mo, .inr (3, [.int tv, .int (nI (2 ^ k)), .ref ma, .ref mb, .int (nI rs), .ref lo, .ref hi, .ref kp, .ref ot, .ref su]))]) hD hS hA [0] rfl
  refine va_calli (va_runV (As := [.int (nI j)]) (rest := []) ⟨hx, hb, hml, hown, hts⟩ (c_X4_noPlace_ok l dC dI mo ma mb lo hi kp ot su k rs tv j H.size (by omega) (by omega) (by omega)) (cwV 1 hts gX4_setA_X4_noPlace rfl rfl rfl (by decide +kernel) ⟨Nat.le_of_ble_eq_true rfl, Nat.le_of_ble_eq_true rfl⟩) ⟨fun a U g mk q => by obtain ⟨q0, q1, qP, qK, qD⟩ := q; exact ⟨q0, q1, qP, va_K.moved (u := U) (U := U.calling g mk a) (Vm.Alike.refl U.vm) qK, qD⟩, va_recv hKc hPc (ci := 3) (q0 := 0) rfl rfl, fun U hU hW => ⟨rfl, by rw [hU], by rw [hU]; exact hPc, va_K.moved hW.alike hKc, hDc.weaken (fun _ _ _ _ => trivial)⟩⟩ rfl rfl hl.1 rfl (lv_room (Nat.le_of_ble_eq_true rfl)) dX4_setA_2 ⟨Nat.le_of_ble_eq_true rfl, Nat.le_of_ble_eq_true rfl⟩) hS (fun q _ h => hFc q h) hFc (fun r9 u9 t9 H1 locs ht hvm hw hB hz1 hk1 hS => ?_)
  obtain ⟨hP1, hD1⟩ := hB
  rw [ht] at hP1
  try dsimp only at hw
  obtain ⟨hP, hD⟩ := va_join (wr := [(ma, .inl (cI, 256, .inl fa))]) (w1 := [(mo, .inr (3, [.int (nI 0), .int (nI (2 ^ k)), .ref ma, .ref mb, .int (nI rs), .ref lo, .ref hi, .ref kp, .ref ot, .ref su]))]) hP hD [0] [1] rfl rfl (by decide) (by decide) hk1 hFc hP1 hD1
  generalize H1 = H at hP hS ⊢
  have hP : va_P (dC, dI) vwCl [(ma, .inl (cI, 256, .inl fa)), (mo, .inr (3, [.int (nI 0), .int (nI (2 ^ k)), .ref ma, .ref mb, .int (nI rs), .ref lo, .ref hi, .ref kp, .ref ot, .ref su]))] H := hP
  have hD : va_D A [(ma, .inl (cI, 256, .inl fa)), (mo, .inr (3, [.int (nI 0), .int (nI (2 ^ k)), .ref ma, .ref mb, .int (nI rs), .ref lo, .ref hi, .ref kp, .ref ot, .ref su]))] := hD
  clear hPc hDc hKc hFc hP1 hD1 hk1 hz1 hvm ht
  subst hw
  refine lv_if_eq (tgt := 10) hx hb dX4_setA_5 (by decide) (fun c_1 => ?_) (fun c_1 => ?_)
  · have c_1 : 0 = 0 := (nI_eq (a := 0) (b := 0) (by omega) (by omega)).mp c_1
    refine lv_aload_n hx hb dX4_setA_10 rfl (lv_at hl 0 rfl) ?_
    refine va_get (D := (dC, dI)) (ci := 3) (v := .ref ma) (C := RX4) (T := TX4) (N := 10) hx hb hts (by decide +kernel) hown hK hP 1 rfl rfl 2 (by decide) (hts (.fieldLink RX4 13 "ThreePrimesModel" "a" "[I") (by decide +kernel)) (fun _ h9 => h9) rfl dX4_setA_11 ?_
    refine lv_iload_n hx hb dX4_setA_14 rfl (lv_at hl 1 rfl) ?_
    refine va_iald hx hb hK hP 0 0 rfl rfl (vp_in_nI (by omega) (by omega)) dX4_setA_15 ?_
    refine W.eq (g2 := F0 m _ ls [.int (fa j)]) (by rw [nI_clamp (by omega)]) ?_
    refine lv_istore_n (lv' := [(3, .int (fa j)), (0, .ref mo), (1, .int (nI j)), (2, .int v)]) hx hb dX4_setA_16 rfl hl (by decide) rfl (fun ls hl => ?_)
    refine lv_aload_n hx hb dX4_setA_17 rfl (lv_at hl 1 rfl) ?_
    refine va_get (D := (dC, dI)) (ci := 3) (v := .ref ma) (C := RX4) (T := TX4) (N := 10) hx hb hts (by decide +kernel) hown hK hP 1 rfl rfl 2 (by decide) (hts (.fieldLink RX4 13 "ThreePrimesModel" "a" "[I") (by decide +kernel)) (fun _ h9 => h9) rfl dX4_setA_18 ?_
    refine lv_iload_n hx hb dX4_setA_21 rfl (lv_at hl 2 rfl) ?_
    refine lv_iload_n hx hb dX4_setA_22 rfl (lv_at hl 3 rfl) ?_
    refine va_iast hx hb hK hP hD hS 0 0 rfl rfl (vp_in_nI (by omega) (by omega)) dX4_setA_23 (fun H locs hP hD hS => ?_)
    rw [nI_clamp (show j < 2 ^ 31 by omega)] at hP hD
    have hP : va_P (dC, dI) vwCl [(ma, .inl (cI, 256, .inl (upd fa j v))), (mo, .inr (3, [.int (nI 0), .int (nI (2 ^ k)), .ref ma, .ref mb, .int (nI rs), .ref lo, .ref hi, .ref kp, .ref ot, .ref su]))] H := hP
    have hD : va_D A [(ma, .inl (cI, 256, .inl (upd fa j v))), (mo, .inr (3, [.int (nI 0), .int (nI (2 ^ k)), .ref ma, .ref mb, .int (nI rs), .ref lo, .ref hi, .ref kp, .ref ot, .ref su]))] := hD
    refine lv_iload_n hx hb dX4_setA_24 rfl (lv_at hl 0 rfl) ?_
    have hP9 : va_P (dC, dI) vwCl [(mo, .inr (3, [.int (nI 0), .int (nI (2 ^ k)), .ref ma, .ref mb, .int (nI rs), .ref lo, .ref hi, .ref kp, .ref ot, .ref su])), (ma, .inl (cI, 256, .inl (upd fa j v)))] H := hP.sub [1, 0] rfl
    have hD9 : va_D A [(mo, .inr (3, [.int (nI 0), .int (nI (2 ^ k)), .ref ma, .ref mb, .int (nI rs), .ref lo, .ref hi, .ref kp, .ref ot, .ref su])), (ma, .inl (cI, 256, .inl (upd fa j v)))] := hD.sub [1, 0] (by decide) rfl
    exact W.iret (v := fa j) hx hb hr (fun tq9 ht hW => ⟨⟨fa j, (), rfl, rfl, by rw [ht]; exact hP9, hD9⟩, hS.F ht⟩) hS.2.2 dX4_setA_25
  · have c_1 : ¬ (0 = 0) := fun zq9 => c_1 ((nI_eq (a := 0) (b := 0) (by omega) (by omega)).mpr zq9)
    omega

abbrev q_X4_setA_bad (dC : Nat → ClassId) (dI : Nat → Nat → Nat) (mo ma mb lo hi kp ot su k rs : Nat) (tv : Int32) (i v : Int32) (A : Nat → Prop) : Array Value → State → Outcome → State → Prop := va_Qi (fun (r : Int32) (u : Unit) => True) (fun u t => va_P (dC, dI) vwCl [(mo, .inr (3, [.int (nI 1), .int (nI (2 ^ k)), .ref ma, .ref mb, .int (nI rs), .ref lo, .ref hi, .ref kp, .ref ot, .ref su]))] t.heap ∧ va_D A [(mo, .inr (3, [.int (nI 1), .int (nI (2 ^ k)), .ref ma, .ref mb, .int (nI rs), .ref lo, .ref hi, .ref kp, .ref ot, .ref su]))]) A
set_option maxHeartbeats 4000000 in
set_option maxRecDepth 100000 in
theorem c_X4_setA_bad (l : Launch) (dC : Nat → ClassId) (dI : Nat → Nat → Nat) (mo ma mb lo hi kp ot su k rs : Nat) (tv : Int32) (i v : Int32) (sz : Nat) (zk1 : 1 ≤ k) (zk : k ≤ 8) (hbad : i < 0 ∨ nI (2 ^ k) ≤ i) : Met l yX4_setA wsX4_setA ({ frames := 1, cells := 0, slots := 0, locals := 21 }) (va_Pc [.ref mo, .int i, .int v] (fun U => U.heap.size = sz ∧ va_P (dC, dI) vwCl [(mo, .inr (3, [.int tv, .int (nI (2 ^ k)), .ref ma, .ref mb, .int (nI rs), .ref lo, .ref hi, .ref kp, .ref ot, .ref su]))] U.heap ∧ va_K (dC, dI) vwCl [] U ∧ va_D (fun _ => True) [(mo, .inr (3, [.int tv, .int (nI (2 ^ k)), .ref ma, .ref mb, .int (nI rs), .ref lo, .ref hi, .ref kp, .ref ot, .ref su]))])) (q_X4_setA_bad dC dI mo ma mb lo hi kp ot su k rs tv i v (va_A [(mo, .inr (3, [.int tv, .int (nI (2 ^ k)), .ref ma, .ref mb, .int (nI rs), .ref lo, .ref hi, .ref kp, .ref ot, .ref su]))] sz)) 0 0 (va_A [(mo, .inr (3, [.int tv, .int (nI (2 ^ k)), .ref ma, .ref mb, .int (nI rs), .ref lo, .ref hi, .ref kp, .ref ot, .ref su]))] sz) := by
  refine Met.ofW (cc := cX4_setA) (maxL := 4) (ret := (some .int)) (by decide) rfl ?_
  intro p e s m args below meth c s₁ B hml hv
  obtain ⟨rfl, hsz, hP, hK, hD0⟩ := hv
  have hx := B.exec
  have hb := B.bytes
  have hr := B.returns
  have hts := atoms_spec (ws := wsX4_setA) B.pre
  have hown : s.vm.findClass RX4 = some m.cls := findClass_of_methodNamed B.named
  have hlocks := B.notSynchronized
  subst hsz
  have hD := hD0.self (sz := s.heap.size)
  generalize hAe : va_A [(mo, .inr (3, [.int tv, .int (nI (2 ^ k)), .ref ma, .ref mb, .int (nI rs), .ref lo, .ref hi, .ref kp, .ref ot, .ref su]))] s.heap.size = A at hD ⊢
  have hA : ∀ q : Nat, s.heap.size ≤ q → A q := fun q h => by rw [← hAe]; exact Or.inr h
  have hS : va_S A s.heap s.heap [] := va_S.rf
  have hP : va_P (dC, dI) vwCl [(mo, .inr (3, [.int tv, .int (nI (2 ^ k)), .ref ma, .ref mb, .int (nI rs), .ref lo, .ref hi, .ref kp, .ref ot, .ref su]))] s.heap := hP
  have hl := lv_entry (([.ref mo, .int i, .int v] : List Value)) (n := 4) (Nat.le_of_ble_eq_true rfl)
  rw [lg_entry_eq]
  generalize (lg_sl (([.ref mo, .int i, .int v] : List Value)) ++ List.replicate (4 - (lg_sl (([.ref mo, .int i, .int v] : List Value))).length) Slot.unset).toArray = ls at hl ⊢
  have hl : lv_has ls 4 [(0, .ref mo), (1, .int i), (2, .int v)] := hl
  obtain ⟨H, hHe⟩ : ∃ H : Heap, H = s.heap := ⟨_, rfl⟩
  rw [← hHe] at hP
  have hS : va_S A s.heap H [] := by rw [hHe]; exact hS
  obtain ⟨locs, hlo⟩ : ∃ L : List Loc, L = [] := ⟨_, rfl⟩
  rw [← hlo] at hS ⊢
  rw [← hHe]
  have hpk := pw8 zk
  refine lv_aload_n hx hb dX4_setA_0 rfl (lv_at hl 0 rfl) ?_
  refine lv_iload_n hx hb dX4_setA_1 rfl (lv_at hl 1 rfl) ?_
  have hPc := hP.sub (ws' := [(mo, .inr (3, [.int tv, .int (nI (2 ^ k)), .ref ma, .ref mb, .int (nI rs), .ref lo, .ref hi, .ref kp, .ref ot, .ref su]))]) [0] rfl
  have hDc := hD.sub (ws' := [(mo, .inr (3, [.int tv, .int (nI (2 ^ k)), .ref ma, .ref mb, .int (nI rs), .ref lo, .ref hi, .ref kp, .ref ot, .ref su]))]) [0] (by decide) rfl
  have hKc := hK.sub (tys' := []) [] rfl
  have hFc := va_free (wc := [(mo, .inr (3, [.int tv, .int (nI (2 ^ k)), .ref ma, .ref mb, .int (nI rs), .ref lo, .ref hi, .ref kp, .ref ot, .ref su]))]) hD hS hA [0] rfl
  refine va_calli (va_runV (As := [.int i]) (rest := []) ⟨hx, hb, hml, hown, hts⟩ (c_X4_noPlace_bad l dC dI mo ma mb lo hi kp ot su k rs tv i H.size (by omega) (by omega) hbad) (cwV 1 hts gX4_setA_X4_noPlace rfl rfl rfl (by decide +kernel) ⟨Nat.le_of_ble_eq_true rfl, Nat.le_of_ble_eq_true rfl⟩) ⟨fun a U g mk q => by obtain ⟨q0, q1, qP, qK, qD⟩ := q; exact ⟨q0, q1, qP, va_K.moved (u := U) (U := U.calling g mk a) (Vm.Alike.refl U.vm) qK, qD⟩, va_recv hKc hPc (ci := 3) (q0 := 0) rfl rfl, fun U hU hW => ⟨rfl, by rw [hU], by rw [hU]; exact hPc, va_K.moved hW.alike hKc, hDc.weaken (fun _ _ _ _ => trivial)⟩⟩ rfl rfl hl.1 rfl (lv_room (Nat.le_of_ble_eq_true rfl)) dX4_setA_2 ⟨Nat.le_of_ble_eq_true rfl, Nat.le_of_ble_eq_true rfl⟩) hS (fun q _ h => hFc q h) hFc (fun r9 u9 t9 H1 locs ht hvm hw hB hz1 hk1 hS => ?_)
  obtain ⟨hP1, hD1⟩ := hB
  rw [ht] at hP1
  try dsimp only at hw
  obtain ⟨hP, hD⟩ := va_join (wr := []) (w1 := [(mo, .inr (3, [.int (nI 1), .int (nI (2 ^ k)), .ref ma, .ref mb, .int (nI rs), .ref lo, .ref hi, .ref kp, .ref ot, .ref su]))]) hP hD [0] [] rfl rfl (by decide) (by decide) hk1 hFc hP1 hD1
  generalize H1 = H at hP hS ⊢
  have hP : va_P (dC, dI) vwCl [(mo, .inr (3, [.int (nI 1), .int (nI (2 ^ k)), .ref ma, .ref mb, .int (nI rs), .ref lo, .ref hi, .ref kp, .ref ot, .ref su]))] H := hP
  have hD : va_D A [(mo, .inr (3, [.int (nI 1), .int (nI (2 ^ k)), .ref ma, .ref mb, .int (nI rs), .ref lo, .ref hi, .ref kp, .ref ot, .ref su]))] := hD
  clear hPc hDc hKc hFc hP1 hD1 hk1 hz1 hvm ht
  subst hw
  refine lv_if_eq (tgt := 10) hx hb dX4_setA_5 (by decide) (fun c_1 => ?_) (fun c_1 => ?_)
  · have c_1 : 1 = 0 := (nI_eq (a := 1) (b := 0) (by omega) (by omega)).mp c_1
    omega
  · have c_1 : ¬ (1 = 0) := fun zq9 => c_1 ((nI_eq (a := 1) (b := 0) (by omega) (by omega)).mpr zq9)
    refine lv_iconst (v := nI 0) hx hb dX4_setA_8 (by decide) ?_
    have hP9 : va_P (dC, dI) vwCl [(mo, .inr (3, [.int (nI 1), .int (nI (2 ^ k)), .ref ma, .ref mb, .int (nI rs), .ref lo, .ref hi, .ref kp, .ref ot, .ref su]))] H := hP.sub [0] rfl
    have hD9 : va_D A [(mo, .inr (3, [.int (nI 1), .int (nI (2 ^ k)), .ref ma, .ref mb, .int (nI rs), .ref lo, .ref hi, .ref kp, .ref ot, .ref su]))] := hD.sub [0] (by decide) rfl
    exact W.iret (v := nI 0) hx hb hr (fun tq9 ht hW => ⟨⟨nI 0, (), rfl, trivial, by rw [ht]; exact hP9, hD9⟩, hS.F ht⟩) hS.2.2 dX4_setA_9

abbrev q_X4_a_ok (dC : Nat → ClassId) (dI : Nat → Nat → Nat) (mo ma mb lo hi kp ot su k rs : Nat) (tv : Int32) (cI : ClassId) (fa : Nat → Int32) (j : Nat) (A : Nat → Prop) : Array Value → State → Outcome → State → Prop := va_Qi (fun (r : Int32) (u : Unit) => r = fa j) (fun u t => va_P (dC, dI) vwCl [(mo, .inr (3, [.int (nI 0), .int (nI (2 ^ k)), .ref ma, .ref mb, .int (nI rs), .ref lo, .ref hi, .ref kp, .ref ot, .ref su])), (ma, .inl (cI, 256, .inl fa))] t.heap ∧ va_D A [(mo, .inr (3, [.int (nI 0), .int (nI (2 ^ k)), .ref ma, .ref mb, .int (nI rs), .ref lo, .ref hi, .ref kp, .ref ot, .ref su])), (ma, .inl (cI, 256, .inl fa))]) A
set_option maxHeartbeats 4000000 in
set_option maxRecDepth 100000 in
theorem c_X4_a_ok (l : Launch) (dC : Nat → ClassId) (dI : Nat → Nat → Nat) (mo ma mb lo hi kp ot su k rs : Nat) (tv : Int32) (cI : ClassId) (fa : Nat → Int32) (j : Nat) (sz : Nat) (zk1 : 1 ≤ k) (zk : k ≤ 8) (zj : j < 2 ^ k) : Met l yX4_a wsX4_a ({ frames := 1, cells := 0, slots := 0, locals := 21 }) (va_Pc [.ref mo, .int (nI j)] (fun U => U.heap.size = sz ∧ va_P (dC, dI) vwCl [(mo, .inr (3, [.int tv, .int (nI (2 ^ k)), .ref ma, .ref mb, .int (nI rs), .ref lo, .ref hi, .ref kp, .ref ot, .ref su])), (ma, .inl (cI, 256, .inl fa))] U.heap ∧ va_K (dC, dI) vwCl [(cI, .int)] U ∧ va_D (fun _ => True) [(mo, .inr (3, [.int tv, .int (nI (2 ^ k)), .ref ma, .ref mb, .int (nI rs), .ref lo, .ref hi, .ref kp, .ref ot, .ref su])), (ma, .inl (cI, 256, .inl fa))])) (q_X4_a_ok dC dI mo ma mb lo hi kp ot su k rs tv cI fa j (va_A [(mo, .inr (3, [.int tv, .int (nI (2 ^ k)), .ref ma, .ref mb, .int (nI rs), .ref lo, .ref hi, .ref kp, .ref ot, .ref su])), (ma, .inl (cI, 256, .inl fa))] sz)) 0 0 (va_A [(mo, .inr (3, [.int tv, .int (nI (2 ^ k)), .ref ma, .ref mb, .int (nI rs), .ref lo, .ref hi, .ref kp, .ref ot, .ref su])), (ma, .inl (cI, 256, .inl fa))] sz) := by
  refine Met.ofW (cc := cX4_a) (maxL := 2) (ret := (some .int)) (by decide) rfl ?_
  intro p e s m args below meth c s₁ B hml hv
  obtain ⟨rfl, hsz, hP, hK, hD0⟩ := hv
  have hx := B.exec
  have hb := B.bytes
  have hr := B.returns
  have hts := atoms_spec (ws := wsX4_a) B.pre
  have hown : s.vm.findClass RX4 = some m.cls := findClass_of_methodNamed B.named
  have hlocks := B.notSynchronized
  subst hsz
  have hD := hD0.self (sz := s.heap.size)
  generalize hAe : va_A [(mo, .inr (3, [.int tv, .int (nI (2 ^ k)), .ref ma, .ref mb, .int (nI rs), .ref lo, .ref hi, .ref kp, .ref ot, .ref su])), (ma, .inl (cI, 256, .inl fa))] s.heap.size = A at hD ⊢
  have hA : ∀ q : Nat, s.heap.size ≤ q → A q := fun q h => by rw [← hAe]; exact Or.inr h
  have hS : va_S A s.heap s.heap [] := va_S.rf
  have hP : va_P (dC, dI) vwCl [(mo, .inr (3, [.int tv, .int (nI (2 ^ k)), .ref ma, .ref mb, .int (nI rs), .ref lo, .ref hi, .ref kp, .ref ot, .ref su])), (ma, .inl (cI, 256, .inl fa))] s.heap := hP
  have hl := lv_entry (([.ref mo, .int (nI j)] : List Value)) (n := 2) (Nat.le_of_ble_eq_true rfl)
  rw [lg_entry_eq]
  generalize (lg_sl (([.ref mo, .int (nI j)] : List Value)) ++ List.replicate (2 - (lg_sl (([.ref mo, .int (nI j)] : List Value))).length) Slot.unset).toArray = ls at hl ⊢
  have hl : lv_has ls 2 [(0, .ref mo), (1, .int (nI j))] := hl
  obtain ⟨H, hHe⟩ : ∃ H : Heap, H = s.heap := ⟨_, rfl⟩
  rw [← hHe] at hP
  have hS : va_S A s.heap H [] := by rw [hHe]; exact hS
  obtain ⟨locs, hlo⟩ : ∃ L : List Loc, L = [] := ⟨_, rfl⟩
  rw [← hlo] at hS ⊢
  rw [← hHe]
  have hpk := pw8 zk
  refine lv_aload_n hx hb dX4_a_0 rfl (lv_at hl 0 rfl) ?_
  refine lv_iload_n hx hb dX4_a_1 rfl (lv_at hl 1 rfl) ?_
  have hPc := hP.sub (ws' := [(mo, .inr (3, [.int tv, .int (nI (2 ^ k)), .ref ma, .ref mb, .int (nI rs), .ref lo, .ref hi, .ref kp, .ref ot, .ref su]))]) [0] rfl
  have hDc := hD.sub (ws' := [(mo, .inr (3, [.int tv, .int (nI (2 ^ k)), .ref ma, .ref mb, .int (nI rs), .ref lo, .ref hi, .ref kp, .ref ot, .ref su]))]) [0] (by decide) rfl
  have hKc := hK.sub (tys' := []) [] rfl
  have hFc := va_free (wc := [(mo, .inr (3, [.int tv, .int (nI (2 ^ k)), .ref ma, .ref mb, .int (nI rs), .ref lo, .ref hi, .ref kp, .ref ot, .ref su]))]) hD hS hA [0] rfl
  refine va_calli (va_runV (As := [.int (nI j)]) (rest := []) ⟨hx, hb, hml, hown, hts⟩ (c_X4_noPlace_ok l dC dI mo ma mb lo hi kp ot su k rs tv j H.size (by omega) (by omega) (by omega)) (cwV 1 hts gX4_a_X4_noPlace rfl rfl rfl (by decide +kernel) ⟨Nat.le_of_ble_eq_true rfl, Nat.le_of_ble_eq_true rfl⟩) ⟨fun a U g mk q => by obtain ⟨q0, q1, qP, qK, qD⟩ := q; exact ⟨q0, q1, qP, va_K.moved (u := U) (U := U.calling g mk a) (Vm.Alike.refl U.vm) qK, qD⟩, va_recv hKc hPc (ci := 3) (q0 := 0) rfl rfl, fun U hU hW => ⟨rfl, by rw [hU], by rw [hU]; exact hPc, va_K.moved hW.alike hKc, hDc.weaken (fun _ _ _ _ => trivial)⟩⟩ rfl rfl hl.1 rfl (lv_room (Nat.le_of_ble_eq_true rfl)) dX4_a_2 ⟨Nat.le_of_ble_eq_true rfl, Nat.le_of_ble_eq_true rfl⟩) hS (fun q _ h => hFc q h) hFc (fun r9 u9 t9 H1 locs ht hvm hw hB hz1 hk1 hS => ?_)
  obtain ⟨hP1, hD1⟩ := hB
  rw [ht] at hP1
  try dsimp only at hw
  obtain ⟨hP, hD⟩ := va_join (wr := [(ma, .inl (cI, 256, .inl fa))]) (w1 := [(mo, .inr (3, [.int (nI 0), .int (nI (2 ^ k)), .ref ma, .ref mb, .int (nI rs), .ref lo, .ref hi, .ref kp, .ref ot, .ref su]))]) hP hD [0] [1] rfl rfl (by decide) (by decide) hk1 hFc hP1 hD1
  generalize H1 = H at hP hS ⊢
  have hP : va_P (dC, dI) vwCl [(ma, .inl (cI, 256, .inl fa)), (mo, .inr (3, [.int (nI 0), .int (nI (2 ^ k)), .ref ma, .ref mb, .int (nI rs), .ref lo, .ref hi, .ref kp, .ref ot, .ref su]))] H := hP
  have hD : va_D A [(ma, .inl (cI, 256, .inl fa)), (mo, .inr (3, [.int (nI 0), .int (nI (2 ^ k)), .ref ma, .ref mb, .int (nI rs), .ref lo, .ref hi, .ref kp, .ref ot, .ref su]))] := hD
  clear hPc hDc hKc hFc hP1 hD1 hk1 hz1 hvm ht
  subst hw
  refine lv_if_eq (tgt := 12) hx hb dX4_a_5 (by decide) (fun c_1 => ?_) (fun c_1 => ?_)
  · have c_1 : 0 = 0 := (nI_eq (a := 0) (b := 0) (by omega) (by omega)).mp c_1
    refine lv_aload_n hx hb dX4_a_12 rfl (lv_at hl 0 rfl) ?_
    refine va_get (D := (dC, dI)) (ci := 3) (v := .ref ma) (C := RX4) (T := TX4) (N := 10) hx hb hts (by decide +kernel) hown hK hP 1 rfl rfl 2 (by decide) (hts (.fieldLink RX4 13 "ThreePrimesModel" "a" "[I") (by decide +kernel)) (fun _ h9 => h9) rfl dX4_a_13 ?_
    refine lv_iload_n hx hb dX4_a_16 rfl (lv_at hl 1 rfl) ?_
    refine va_iald hx hb hK hP 0 0 rfl rfl (vp_in_nI (by omega) (by omega)) dX4_a_17 ?_
    refine W.eq (g2 := F0 m _ ls [.int (fa j)]) (by rw [nI_clamp (by omega)]) ?_
    have hP9 : va_P (dC, dI) vwCl [(mo, .inr (3, [.int (nI 0), .int (nI (2 ^ k)), .ref ma, .ref mb, .int (nI rs), .ref lo, .ref hi, .ref kp, .ref ot, .ref su])), (ma, .inl (cI, 256, .inl fa))] H := hP.sub [1, 0] rfl
    have hD9 : va_D A [(mo, .inr (3, [.int (nI 0), .int (nI (2 ^ k)), .ref ma, .ref mb, .int (nI rs), .ref lo, .ref hi, .ref kp, .ref ot, .ref su])), (ma, .inl (cI, 256, .inl fa))] := hD.sub [1, 0] (by decide) rfl
    exact W.iret (v := fa j) hx hb hr (fun tq9 ht hW => ⟨⟨fa j, (), rfl, rfl, by rw [ht]; exact hP9, hD9⟩, hS.F ht⟩) hS.2.2 dX4_a_18
  · have c_1 : ¬ (0 = 0) := fun zq9 => c_1 ((nI_eq (a := 0) (b := 0) (by omega) (by omega)).mpr zq9)
    omega

abbrev q_X4_a_bad (dC : Nat → ClassId) (dI : Nat → Nat → Nat) (mo ma mb lo hi kp ot su k rs : Nat) (tv : Int32) (i : Int32) (A : Nat → Prop) : Array Value → State → Outcome → State → Prop := va_Qi (fun (r : Int32) (u : Unit) => True) (fun u t => va_P (dC, dI) vwCl [(mo, .inr (3, [.int (nI 1), .int (nI (2 ^ k)), .ref ma, .ref mb, .int (nI rs), .ref lo, .ref hi, .ref kp, .ref ot, .ref su]))] t.heap ∧ va_D A [(mo, .inr (3, [.int (nI 1), .int (nI (2 ^ k)), .ref ma, .ref mb, .int (nI rs), .ref lo, .ref hi, .ref kp, .ref ot, .ref su]))]) A
set_option maxHeartbeats 4000000 in
set_option maxRecDepth 100000 in
theorem c_X4_a_bad (l : Launch) (dC : Nat → ClassId) (dI : Nat → Nat → Nat) (mo ma mb lo hi kp ot su k rs : Nat) (tv : Int32) (i : Int32) (sz : Nat) (zk1 : 1 ≤ k) (zk : k ≤ 8) (hbad : i < 0 ∨ nI (2 ^ k) ≤ i) : Met l yX4_a wsX4_a ({ frames := 1, cells := 0, slots := 0, locals := 21 }) (va_Pc [.ref mo, .int i] (fun U => U.heap.size = sz ∧ va_P (dC, dI) vwCl [(mo, .inr (3, [.int tv, .int (nI (2 ^ k)), .ref ma, .ref mb, .int (nI rs), .ref lo, .ref hi, .ref kp, .ref ot, .ref su]))] U.heap ∧ va_K (dC, dI) vwCl [] U ∧ va_D (fun _ => True) [(mo, .inr (3, [.int tv, .int (nI (2 ^ k)), .ref ma, .ref mb, .int (nI rs), .ref lo, .ref hi, .ref kp, .ref ot, .ref su]))])) (q_X4_a_bad dC dI mo ma mb lo hi kp ot su k rs tv i (va_A [(mo, .inr (3, [.int tv, .int (nI (2 ^ k)), .ref ma, .ref mb, .int (nI rs), .ref lo, .ref hi, .ref kp, .ref ot, .ref su]))] sz)) 0 0 (va_A [(mo, .inr (3, [.int tv, .int (nI (2 ^ k)), .ref ma, .ref mb, .int (nI rs), .ref lo, .ref hi, .ref kp, .ref ot, .ref su]))] sz) := by
  refine Met.ofW (cc := cX4_a) (maxL := 2) (ret := (some .int)) (by decide) rfl ?_
  intro p e s m args below meth c s₁ B hml hv
  obtain ⟨rfl, hsz, hP, hK, hD0⟩ := hv
  have hx := B.exec
  have hb := B.bytes
  have hr := B.returns
  have hts := atoms_spec (ws := wsX4_a) B.pre
  have hown : s.vm.findClass RX4 = some m.cls := findClass_of_methodNamed B.named
  have hlocks := B.notSynchronized
  subst hsz
  have hD := hD0.self (sz := s.heap.size)
  generalize hAe : va_A [(mo, .inr (3, [.int tv, .int (nI (2 ^ k)), .ref ma, .ref mb, .int (nI rs), .ref lo, .ref hi, .ref kp, .ref ot, .ref su]))] s.heap.size = A at hD ⊢
  have hA : ∀ q : Nat, s.heap.size ≤ q → A q := fun q h => by rw [← hAe]; exact Or.inr h
  have hS : va_S A s.heap s.heap [] := va_S.rf
  have hP : va_P (dC, dI) vwCl [(mo, .inr (3, [.int tv, .int (nI (2 ^ k)), .ref ma, .ref mb, .int (nI rs), .ref lo, .ref hi, .ref kp, .ref ot, .ref su]))] s.heap := hP
  have hl := lv_entry (([.ref mo, .int i] : List Value)) (n := 2) (Nat.le_of_ble_eq_true rfl)
  rw [lg_entry_eq]
  generalize (lg_sl (([.ref mo, .int i] : List Value)) ++ List.replicate (2 - (lg_sl (([.ref mo, .int i] : List Value))).length) Slot.unset).toArray = ls at hl ⊢
  have hl : lv_has ls 2 [(0, .ref mo), (1, .int i)] := hl
  obtain ⟨H, hHe⟩ : ∃ H : Heap, H = s.heap := ⟨_, rfl⟩
  rw [← hHe] at hP
  have hS : va_S A s.heap H [] := by rw [hHe]; exact hS
  obtain ⟨locs, hlo⟩ : ∃ L : List Loc, L = [] := ⟨_, rfl⟩
  rw [← hlo] at hS ⊢
  rw [← hHe]
  have hpk := pw8 zk
  refine lv_aload_n hx hb dX4_a_0 rfl (lv_at hl 0 rfl) ?_
  refine lv_iload_n hx hb dX4_a_1 rfl (lv_at hl 1 rfl) ?_
  have hPc := hP.sub (ws' := [(mo, .inr (3, [.int tv, .int (nI (2 ^ k)), .ref ma, .ref mb, .int (nI rs), .ref lo, .ref hi, .ref kp, .ref ot, .ref su]))]) [0] rfl
  have hDc := hD.sub (ws' := [(mo, .inr (3, [.int tv, .int (nI (2 ^ k)), .ref ma, .ref mb, .int (nI rs), .ref lo, .ref hi, .ref kp, .ref ot, .ref su]))]) [0] (by decide) rfl
  have hKc := hK.sub (tys' := []) [] rfl
  have hFc := va_free (wc := [(mo, .inr (3, [.int tv, .int (nI (2 ^ k)), .ref ma, .ref mb, .int (nI rs), .ref lo, .ref hi, .ref kp, .ref ot, .ref su]))]) hD hS hA [0] rfl
  refine va_calli (va_runV (As := [.int i]) (rest := []) ⟨hx, hb, hml, hown, hts⟩ (c_X4_noPlace_bad l dC dI mo ma mb lo hi kp ot su k rs tv i H.size (by omega) (by omega) hbad) (cwV 1 hts gX4_a_X4_noPlace rfl rfl rfl (by decide +kernel) ⟨Nat.le_of_ble_eq_true rfl, Nat.le_of_ble_eq_true rfl⟩) ⟨fun a U g mk q => by obtain ⟨q0, q1, qP, qK, qD⟩ := q; exact ⟨q0, q1, qP, va_K.moved (u := U) (U := U.calling g mk a) (Vm.Alike.refl U.vm) qK, qD⟩, va_recv hKc hPc (ci := 3) (q0 := 0) rfl rfl, fun U hU hW => ⟨rfl, by rw [hU], by rw [hU]; exact hPc, va_K.moved hW.alike hKc, hDc.weaken (fun _ _ _ _ => trivial)⟩⟩ rfl rfl hl.1 rfl (lv_room (Nat.le_of_ble_eq_true rfl)) dX4_a_2 ⟨Nat.le_of_ble_eq_true rfl, Nat.le_of_ble_eq_true rfl⟩) hS (fun q _ h => hFc q h) hFc (fun r9 u9 t9 H1 locs ht hvm hw hB hz1 hk1 hS => ?_)
  obtain ⟨hP1, hD1⟩ := hB
  rw [ht] at hP1
  try dsimp only at hw
  obtain ⟨hP, hD⟩ := va_join (wr := []) (w1 := [(mo, .inr (3, [.int (nI 1), .int (nI (2 ^ k)), .ref ma, .ref mb, .int (nI rs), .ref lo, .ref hi, .ref kp, .ref ot, .ref su]))]) hP hD [0] [] rfl rfl (by decide) (by decide) hk1 hFc hP1 hD1
  generalize H1 = H at hP hS ⊢
  have hP : va_P (dC, dI) vwCl [(mo, .inr (3, [.int (nI 1), .int (nI (2 ^ k)), .ref ma, .ref mb, .int (nI rs), .ref lo, .ref hi, .ref kp, .ref ot, .ref su]))] H := hP
  have hD : va_D A [(mo, .inr (3, [.int (nI 1), .int (nI (2 ^ k)), .ref ma, .ref mb, .int (nI rs), .ref lo, .ref hi, .ref kp, .ref ot, .ref su]))] := hD
  clear hPc hDc hKc hFc hP1 hD1 hk1 hz1 hvm ht
  subst hw
  refine lv_if_eq (tgt := 12) hx hb dX4_a_5 (by decide) (fun c_1 => ?_) (fun c_1 => ?_)
  · have c_1 : 1 = 0 := (nI_eq (a := 1) (b := 0) (by omega) (by omega)).mp c_1
    omega
  · have c_1 : ¬ (1 = 0) := fun zq9 => c_1 ((nI_eq (a := 1) (b := 0) (by omega) (by omega)).mpr zq9)
    refine lv_iconst (v := nI 0) hx hb dX4_a_8 (by decide) ?_
    refine lv_goto (tgt := 18) hx hb dX4_a_9 (by decide) ?_
    have hP9 : va_P (dC, dI) vwCl [(mo, .inr (3, [.int (nI 1), .int (nI (2 ^ k)), .ref ma, .ref mb, .int (nI rs), .ref lo, .ref hi, .ref kp, .ref ot, .ref su]))] H := hP.sub [0] rfl
    have hD9 : va_D A [(mo, .inr (3, [.int (nI 1), .int (nI (2 ^ k)), .ref ma, .ref mb, .int (nI rs), .ref lo, .ref hi, .ref kp, .ref ot, .ref su]))] := hD.sub [0] (by decide) rfl
    exact W.iret (v := nI 0) hx hb hr (fun tq9 ht hW => ⟨⟨nI 0, (), rfl, trivial, by rw [ht]; exact hP9, hD9⟩, hS.F ht⟩) hS.2.2 dX4_a_18

abbrev q_X4_setB_ok (dC : Nat → ClassId) (dI : Nat → Nat → Nat) (mo ma mb lo hi kp ot su k rs : Nat) (tv : Int32) (cI : ClassId) (fb : Nat → Int32) (j : Nat) (v : Int32) (A : Nat → Prop) : Array Value → State → Outcome → State → Prop := va_Qi (fun (r : Int32) (u : Unit) => r = fb j) (fun u t => va_P (dC, dI) vwCl [(mo, .inr (3, [.int (nI 0), .int (nI (2 ^ k)), .ref ma, .ref mb, .int (nI rs), .ref lo, .ref hi, .ref kp, .ref ot, .ref su])), (mb, .inl (cI, 256, .inl (upd fb j v)))] t.heap ∧ va_D A [(mo, .inr (3, [.int (nI 0), .int (nI (2 ^ k)), .ref ma, .ref mb, .int (nI rs), .ref lo, .ref hi, .ref kp, .ref ot, .ref su])), (mb, .inl (cI, 256, .inl (upd fb j v)))]) A
set_option maxHeartbeats 4000000 in
set_option maxRecDepth 100000 in
theorem c_X4_setB_ok (l : Launch) (dC : Nat → ClassId) (dI : Nat → Nat → Nat) (mo ma mb lo hi kp ot su k rs : Nat) (tv : Int32) (cI : ClassId) (fb : Nat → Int32) (j : Nat) (v : Int32) (sz : Nat) (zk1 : 1 ≤ k) (zk : k ≤ 8) (zj : j < 2 ^ k) : Met l yX4_setB wsX4_setB ({ frames := 1, cells := 0, slots := 0, locals := 21 }) (va_Pc [.ref mo, .int (nI j), .int v] (fun U => U.heap.size = sz ∧ va_P (dC, dI) vwCl [(mo, .inr (3, [.int tv, .int (nI (2 ^ k)), .ref ma, .ref mb, .int (nI rs), .ref lo, .ref hi, .ref kp, .ref ot, .ref su])), (mb, .inl (cI, 256, .inl fb))] U.heap ∧ va_K (dC, dI) vwCl [(cI, .int)] U ∧ va_D (fun _ => True) [(mo, .inr (3, [.int tv, .int (nI (2 ^ k)), .ref ma, .ref mb, .int (nI rs), .ref lo, .ref hi, .ref kp, .ref ot, .ref su])), (mb, .inl (cI, 256, .inl fb))])) (q_X4_setB_ok dC dI mo ma mb lo hi kp ot su k rs tv cI fb j v (va_A [(mo, .inr (3, [.int tv, .int (nI (2 ^ k)), .ref ma, .ref mb, .int (nI rs), .ref lo, .ref hi, .ref kp, .ref ot, .ref su])), (mb, .inl (cI, 256, .inl fb))] sz)) 0 0 (va_A [(mo, .inr (3, [.int tv, .int (nI (2 ^ k)), .ref ma, .ref mb, .int (nI rs), .ref lo, .ref hi, .ref kp, .ref ot, .ref su])), (mb, .inl (cI, 256, .inl fb))] sz) := by
  refine Met.ofW (cc := cX4_setB) (maxL := 4) (ret := (some .int)) (by decide) rfl ?_
  intro p e s m args below meth c s₁ B hml hv
  obtain ⟨rfl, hsz, hP, hK, hD0⟩ := hv
  have hx := B.exec
  have hb := B.bytes
  have hr := B.returns
  have hts := atoms_spec (ws := wsX4_setB) B.pre
  have hown : s.vm.findClass RX4 = some m.cls := findClass_of_methodNamed B.named
  have hlocks := B.notSynchronized
  subst hsz
  have hD := hD0.self (sz := s.heap.size)
  generalize hAe : va_A [(mo, .inr (3, [.int tv, .int (nI (2 ^ k)), .ref ma, .ref mb, .int (nI rs), .ref lo, .ref hi, .ref kp, .ref ot, .ref su])), (mb, .inl (cI, 256, .inl fb))] s.heap.size = A at hD ⊢
  have hA : ∀ q : Nat, s.heap.size ≤ q → A q := fun q h => by rw [← hAe]; exact Or.inr h
  have hS : va_S A s.heap s.heap [] := va_S.rf
  have hP : va_P (dC, dI) vwCl [(mo, .inr (3, [.int tv, .int (nI (2 ^ k)), .ref ma, .ref mb, .int (nI rs), .ref lo, .ref hi, .ref kp, .ref ot, .ref su])), (mb, .inl (cI, 256, .inl fb))] s.heap := hP
  have hl := lv_entry (([.ref mo, .int (nI j), .int v] : List Value)) (n := 4) (Nat.le_of_ble_eq_true rfl)
  rw [lg_entry_eq]
  generalize (lg_sl (([.ref mo, .int (nI j), .int v] : List Value)) ++ List.replicate (4 - (lg_sl (([.ref mo, .int (nI j), .int v] : List Value))).length) Slot.unset).toArray = ls at hl ⊢
  have hl : lv_has ls 4 [(0, .ref mo), (1, .int (nI j)), (2, .int v)] := hl
  obtain ⟨H, hHe⟩ : ∃ H : Heap, H = s.heap := ⟨_, rfl⟩
  rw [← hHe] at hP
  have hS : va_S A s.heap H [] := by rw [hHe]; exact hS
  obtain ⟨locs, hlo⟩ : ∃ L : List Loc, L = [] := ⟨_, rfl⟩
  rw [← hlo] at hS ⊢
  rw [← hHe]
  have hpk := pw8 zk
  refine lv_aload_n hx hb dX4_setB_0 rfl (lv_at hl 0 rfl) ?_
  refine lv_iload_n hx hb dX4_setB_1 rfl (lv_at hl 1 rfl) ?_
  have hPc := hP.sub (ws' := [(mo, .inr (3, [.int tv, .int (nI (2 ^ k)), .ref ma, .ref mb, .int (nI rs), .ref lo, .ref hi, .ref kp, .ref ot, .ref su]))]) [0] rfl
  have hDc := hD.sub (ws' := [(mo, .inr (3, [.int tv, .int (nI (2 ^ k)), .ref ma, .ref mb, .int (nI rs), .ref lo, .ref hi, .ref kp, .ref ot, .ref su]))]) [0] (by decide) rfl
  have hKc := hK.sub (tys' := []) [] rfl
  have hFc := va_free (wc := [(mo, .inr (3, [.int tv, .int (nI (2 ^ k)), .ref ma, .ref mb, .int (nI rs), .ref lo, .ref hi, .ref kp, .ref ot, .ref su]))]) hD hS hA [0] rfl
  refine va_calli (va_runV (As := [.int (nI j)]) (rest := []) ⟨hx, hb, hml, hown, hts⟩ (c_X4_noPlace_ok l dC dI mo ma mb lo hi kp ot su k rs tv j H.size (by omega) (by omega) (by omega)) (cwV 1 hts gX4_setB_X4_noPlace rfl rfl rfl (by decide +kernel) ⟨Nat.le_of_ble_eq_true rfl, Nat.le_of_ble_eq_true rfl⟩) ⟨fun a U g mk q => by obtain ⟨q0, q1, qP, qK, qD⟩ := q; exact ⟨q0, q1, qP, va_K.moved (u := U) (U := U.calling g mk a) (Vm.Alike.refl U.vm) qK, qD⟩, va_recv hKc hPc (ci := 3) (q0 := 0) rfl rfl, fun U hU hW => ⟨rfl, by rw [hU], by rw [hU]; exact hPc, va_K.moved hW.alike hKc, hDc.weaken (fun _ _ _ _ => trivial)⟩⟩ rfl rfl hl.1 rfl (lv_room (Nat.le_of_ble_eq_true rfl)) dX4_setB_2 ⟨Nat.le_of_ble_eq_true rfl, Nat.le_of_ble_eq_true rfl⟩) hS (fun q _ h => hFc q h) hFc (fun r9 u9 t9 H1 locs ht hvm hw hB hz1 hk1 hS => ?_)
  obtain ⟨hP1, hD1⟩ := hB
  rw [ht] at hP1
  try dsimp only at hw
  obtain ⟨hP, hD⟩ := va_join (wr := [(mb, .inl (cI, 256, .inl fb))]) (w1 := [(mo, .inr (3, [.int (nI 0), .int (nI (2 ^ k)), .ref ma, .ref mb, .int (nI rs), .ref lo, .ref hi, .ref kp, .ref ot, .ref su]))]) hP hD [0] [1] rfl rfl (by decide) (by decide) hk1 hFc hP1 hD1
  generalize H1 = H at hP hS ⊢
  have hP : va_P (dC, dI) vwCl [(mb, .inl (cI, 256, .inl fb)), (mo, .inr (3, [.int (nI 0), .int (nI (2 ^ k)), .ref ma, .ref mb, .int (nI rs), .ref lo, .ref hi, .ref kp, .ref ot, .ref su]))] H := hP
  have hD : va_D A [(mb, .inl (cI, 256, .inl fb)), (mo, .inr (3, [.int (nI 0), .int (nI (2 ^ k)), .ref ma, .ref mb, .int (nI rs), .ref lo, .ref hi, .ref kp, .ref ot, .ref su]))] := hD
  clear hPc hDc hKc hFc hP1 hD1 hk1 hz1 hvm ht
  subst hw
  refine lv_if_eq (tgt := 10) hx hb dX4_setB_5 (by decide) (fun c_1 => ?_) (fun c_1 => ?_)
  · have c_1 : 0 = 0 := (nI_eq (a := 0) (b := 0) (by omega) (by omega)).mp c_1
    refine lv_aload_n hx hb dX4_setB_10 rfl (lv_at hl 0 rfl) ?_
    refine va_get (D := (dC, dI)) (ci := 3) (v := .ref mb) (C := RX4) (T := TX4) (N := 10) hx hb hts (by decide +kernel) hown hK hP 1 rfl rfl 3 (by decide) (hts (.fieldLink RX4 17 "ThreePrimesModel" "b" "[I") (by decide +kernel)) (fun _ h9 => h9) rfl dX4_setB_11 ?_
    refine lv_iload_n hx hb dX4_setB_14 rfl (lv_at hl 1 rfl) ?_
    refine va_iald hx hb hK hP 0 0 rfl rfl (vp_in_nI (by omega) (by omega)) dX4_setB_15 ?_
    refine W.eq (g2 := F0 m _ ls [.int (fb j)]) (by rw [nI_clamp (by omega)]) ?_
    refine lv_istore_n (lv' := [(3, .int (fb j)), (0, .ref mo), (1, .int (nI j)), (2, .int v)]) hx hb dX4_setB_16 rfl hl (by decide) rfl (fun ls hl => ?_)
    refine lv_aload_n hx hb dX4_setB_17 rfl (lv_at hl 1 rfl) ?_
    refine va_get (D := (dC, dI)) (ci := 3) (v := .ref mb) (C := RX4) (T := TX4) (N := 10) hx hb hts (by decide +kernel) hown hK hP 1 rfl rfl 3 (by decide) (hts (.fieldLink RX4 17 "ThreePrimesModel" "b" "[I") (by decide +kernel)) (fun _ h9 => h9) rfl dX4_setB_18 ?_
    refine lv_iload_n hx hb dX4_setB_21 rfl (lv_at hl 2 rfl) ?_
    refine lv_iload_n hx hb dX4_setB_22 rfl (lv_at hl 3 rfl) ?_
    refine va_iast hx hb hK hP hD hS 0 0 rfl rfl (vp_in_nI (by omega) (by omega)) dX4_setB_23 (fun H locs hP hD hS => ?_)
    rw [nI_clamp (show j < 2 ^ 31 by omega)] at hP hD
    have hP : va_P (dC, dI) vwCl [(mb, .inl (cI, 256, .inl (upd fb j v))), (mo, .inr (3, [.int (nI 0), .int (nI (2 ^ k)), .ref ma, .ref mb, .int (nI rs), .ref lo, .ref hi, .ref kp, .ref ot, .ref su]))] H := hP
    have hD : va_D A [(mb, .inl (cI, 256, .inl (upd fb j v))), (mo, .inr (3, [.int (nI 0), .int (nI (2 ^ k)), .ref ma, .ref mb, .int (nI rs), .ref lo, .ref hi, .ref kp, .ref ot, .ref su]))] := hD
    refine lv_iload_n hx hb dX4_setB_24 rfl (lv_at hl 0 rfl) ?_
    have hP9 : va_P (dC, dI) vwCl [(mo, .inr (3, [.int (nI 0), .int (nI (2 ^ k)), .ref ma, .ref mb, .int (nI rs), .ref lo, .ref hi, .ref kp, .ref ot, .ref su])), (mb, .inl (cI, 256, .inl (upd fb j v)))] H := hP.sub [1, 0] rfl
    have hD9 : va_D A [(mo, .inr (3, [.int (nI 0), .int (nI (2 ^ k)), .ref ma, .ref mb, .int (nI rs), .ref lo, .ref hi, .ref kp, .ref ot, .ref su])), (mb, .inl (cI, 256, .inl (upd fb j v)))] := hD.sub [1, 0] (by decide) rfl
    exact W.iret (v := fb j) hx hb hr (fun tq9 ht hW => ⟨⟨fb j, (), rfl, rfl, by rw [ht]; exact hP9, hD9⟩, hS.F ht⟩) hS.2.2 dX4_setB_25
  · have c_1 : ¬ (0 = 0) := fun zq9 => c_1 ((nI_eq (a := 0) (b := 0) (by omega) (by omega)).mpr zq9)
    omega

abbrev q_X4_setB_bad (dC : Nat → ClassId) (dI : Nat → Nat → Nat) (mo ma mb lo hi kp ot su k rs : Nat) (tv : Int32) (i v : Int32) (A : Nat → Prop) : Array Value → State → Outcome → State → Prop := va_Qi (fun (r : Int32) (u : Unit) => True) (fun u t => va_P (dC, dI) vwCl [(mo, .inr (3, [.int (nI 1), .int (nI (2 ^ k)), .ref ma, .ref mb, .int (nI rs), .ref lo, .ref hi, .ref kp, .ref ot, .ref su]))] t.heap ∧ va_D A [(mo, .inr (3, [.int (nI 1), .int (nI (2 ^ k)), .ref ma, .ref mb, .int (nI rs), .ref lo, .ref hi, .ref kp, .ref ot, .ref su]))]) A
set_option maxHeartbeats 4000000 in
set_option maxRecDepth 100000 in
theorem c_X4_setB_bad (l : Launch) (dC : Nat → ClassId) (dI : Nat → Nat → Nat) (mo ma mb lo hi kp ot su k rs : Nat) (tv : Int32) (i v : Int32) (sz : Nat) (zk1 : 1 ≤ k) (zk : k ≤ 8) (hbad : i < 0 ∨ nI (2 ^ k) ≤ i) : Met l yX4_setB wsX4_setB ({ frames := 1, cells := 0, slots := 0, locals := 21 }) (va_Pc [.ref mo, .int i, .int v] (fun U => U.heap.size = sz ∧ va_P (dC, dI) vwCl [(mo, .inr (3, [.int tv, .int (nI (2 ^ k)), .ref ma, .ref mb, .int (nI rs), .ref lo, .ref hi, .ref kp, .ref ot, .ref su]))] U.heap ∧ va_K (dC, dI) vwCl [] U ∧ va_D (fun _ => True) [(mo, .inr (3, [.int tv, .int (nI (2 ^ k)), .ref ma, .ref mb, .int (nI rs), .ref lo, .ref hi, .ref kp, .ref ot, .ref su]))])) (q_X4_setB_bad dC dI mo ma mb lo hi kp ot su k rs tv i v (va_A [(mo, .inr (3, [.int tv, .int (nI (2 ^ k)), .ref ma, .ref mb, .int (nI rs), .ref lo, .ref hi, .ref kp, .ref ot, .ref su]))] sz)) 0 0 (va_A [(mo, .inr (3, [.int tv, .int (nI (2 ^ k)), .ref ma, .ref mb, .int (nI rs), .ref lo, .ref hi, .ref kp, .ref ot, .ref su]))] sz) := by
  refine Met.ofW (cc := cX4_setB) (maxL := 4) (ret := (some .int)) (by decide) rfl ?_
  intro p e s m args below meth c s₁ B hml hv
  obtain ⟨rfl, hsz, hP, hK, hD0⟩ := hv
  have hx := B.exec
  have hb := B.bytes
  have hr := B.returns
  have hts := atoms_spec (ws := wsX4_setB) B.pre
  have hown : s.vm.findClass RX4 = some m.cls := findClass_of_methodNamed B.named
  have hlocks := B.notSynchronized
  subst hsz
  have hD := hD0.self (sz := s.heap.size)
  generalize hAe : va_A [(mo, .inr (3, [.int tv, .int (nI (2 ^ k)), .ref ma, .ref mb, .int (nI rs), .ref lo, .ref hi, .ref kp, .ref ot, .ref su]))] s.heap.size = A at hD ⊢
  have hA : ∀ q : Nat, s.heap.size ≤ q → A q := fun q h => by rw [← hAe]; exact Or.inr h
  have hS : va_S A s.heap s.heap [] := va_S.rf
  have hP : va_P (dC, dI) vwCl [(mo, .inr (3, [.int tv, .int (nI (2 ^ k)), .ref ma, .ref mb, .int (nI rs), .ref lo, .ref hi, .ref kp, .ref ot, .ref su]))] s.heap := hP
  have hl := lv_entry (([.ref mo, .int i, .int v] : List Value)) (n := 4) (Nat.le_of_ble_eq_true rfl)
  rw [lg_entry_eq]
  generalize (lg_sl (([.ref mo, .int i, .int v] : List Value)) ++ List.replicate (4 - (lg_sl (([.ref mo, .int i, .int v] : List Value))).length) Slot.unset).toArray = ls at hl ⊢
  have hl : lv_has ls 4 [(0, .ref mo), (1, .int i), (2, .int v)] := hl
  obtain ⟨H, hHe⟩ : ∃ H : Heap, H = s.heap := ⟨_, rfl⟩
  rw [← hHe] at hP
  have hS : va_S A s.heap H [] := by rw [hHe]; exact hS
  obtain ⟨locs, hlo⟩ : ∃ L : List Loc, L = [] := ⟨_, rfl⟩
  rw [← hlo] at hS ⊢
  rw [← hHe]
  have hpk := pw8 zk
  refine lv_aload_n hx hb dX4_setB_0 rfl (lv_at hl 0 rfl) ?_
  refine lv_iload_n hx hb dX4_setB_1 rfl (lv_at hl 1 rfl) ?_
  have hPc := hP.sub (ws' := [(mo, .inr (3, [.int tv, .int (nI (2 ^ k)), .ref ma, .ref mb, .int (nI rs), .ref lo, .ref hi, .ref kp, .ref ot, .ref su]))]) [0] rfl
  have hDc := hD.sub (ws' := [(mo, .inr (3, [.int tv, .int (nI (2 ^ k)), .ref ma, .ref mb, .int (nI rs), .ref lo, .ref hi, .ref kp, .ref ot, .ref su]))]) [0] (by decide) rfl
  have hKc := hK.sub (tys' := []) [] rfl
  have hFc := va_free (wc := [(mo, .inr (3, [.int tv, .int (nI (2 ^ k)), .ref ma, .ref mb, .int (nI rs), .ref lo, .ref hi, .ref kp, .ref ot, .ref su]))]) hD hS hA [0] rfl
  refine va_calli (va_runV (As := [.int i]) (rest := []) ⟨hx, hb, hml, hown, hts⟩ (c_X4_noPlace_bad l dC dI mo ma mb lo hi kp ot su k rs tv i H.size (by omega) (by omega) hbad) (cwV 1 hts gX4_setB_X4_noPlace rfl rfl rfl (by decide +kernel) ⟨Nat.le_of_ble_eq_true rfl, Nat.le_of_ble_eq_true rfl⟩) ⟨fun a U g mk q => by obtain ⟨q0, q1, qP, qK, qD⟩ := q; exact ⟨q0, q1, qP, va_K.moved (u := U) (U := U.calling g mk a) (Vm.Alike.refl U.vm) qK, qD⟩, va_recv hKc hPc (ci := 3) (q0 := 0) rfl rfl, fun U hU hW => ⟨rfl, by rw [hU], by rw [hU]; exact hPc, va_K.moved hW.alike hKc, hDc.weaken (fun _ _ _ _ => trivial)⟩⟩ rfl rfl hl.1 rfl (lv_room (Nat.le_of_ble_eq_true rfl)) dX4_setB_2 ⟨Nat.le_of_ble_eq_true rfl, Nat.le_of_ble_eq_true rfl⟩) hS (fun q _ h => hFc q h) hFc (fun r9 u9 t9 H1 locs ht hvm hw hB hz1 hk1 hS => ?_)
  obtain ⟨hP1, hD1⟩ := hB
  rw [ht] at hP1
  try dsimp only at hw
  obtain ⟨hP, hD⟩ := va_join (wr := []) (w1 := [(mo, .inr (3, [.int (nI 1), .int (nI (2 ^ k)), .ref ma, .ref mb, .int (nI rs), .ref lo, .ref hi, .ref kp, .ref ot, .ref su]))]) hP hD [0] [] rfl rfl (by decide) (by decide) hk1 hFc hP1 hD1
  generalize H1 = H at hP hS ⊢
  have hP : va_P (dC, dI) vwCl [(mo, .inr (3, [.int (nI 1), .int (nI (2 ^ k)), .ref ma, .ref mb, .int (nI rs), .ref lo, .ref hi, .ref kp, .ref ot, .ref su]))] H := hP
  have hD : va_D A [(mo, .inr (3, [.int (nI 1), .int (nI (2 ^ k)), .ref ma, .ref mb, .int (nI rs), .ref lo, .ref hi, .ref kp, .ref ot, .ref su]))] := hD
  clear hPc hDc hKc hFc hP1 hD1 hk1 hz1 hvm ht
  subst hw
  refine lv_if_eq (tgt := 10) hx hb dX4_setB_5 (by decide) (fun c_1 => ?_) (fun c_1 => ?_)
  · have c_1 : 1 = 0 := (nI_eq (a := 1) (b := 0) (by omega) (by omega)).mp c_1
    omega
  · have c_1 : ¬ (1 = 0) := fun zq9 => c_1 ((nI_eq (a := 1) (b := 0) (by omega) (by omega)).mpr zq9)
    refine lv_iconst (v := nI 0) hx hb dX4_setB_8 (by decide) ?_
    have hP9 : va_P (dC, dI) vwCl [(mo, .inr (3, [.int (nI 1), .int (nI (2 ^ k)), .ref ma, .ref mb, .int (nI rs), .ref lo, .ref hi, .ref kp, .ref ot, .ref su]))] H := hP.sub [0] rfl
    have hD9 : va_D A [(mo, .inr (3, [.int (nI 1), .int (nI (2 ^ k)), .ref ma, .ref mb, .int (nI rs), .ref lo, .ref hi, .ref kp, .ref ot, .ref su]))] := hD.sub [0] (by decide) rfl
    exact W.iret (v := nI 0) hx hb hr (fun tq9 ht hW => ⟨⟨nI 0, (), rfl, trivial, by rw [ht]; exact hP9, hD9⟩, hS.F ht⟩) hS.2.2 dX4_setB_9

abbrev q_X4_b_ok (dC : Nat → ClassId) (dI : Nat → Nat → Nat) (mo ma mb lo hi kp ot su k rs : Nat) (tv : Int32) (cI : ClassId) (fb : Nat → Int32) (j : Nat) (A : Nat → Prop) : Array Value → State → Outcome → State → Prop := va_Qi (fun (r : Int32) (u : Unit) => r = fb j) (fun u t => va_P (dC, dI) vwCl [(mo, .inr (3, [.int (nI 0), .int (nI (2 ^ k)), .ref ma, .ref mb, .int (nI rs), .ref lo, .ref hi, .ref kp, .ref ot, .ref su])), (mb, .inl (cI, 256, .inl fb))] t.heap ∧ va_D A [(mo, .inr (3, [.int (nI 0), .int (nI (2 ^ k)), .ref ma, .ref mb, .int (nI rs), .ref lo, .ref hi, .ref kp, .ref ot, .ref su])), (mb, .inl (cI, 256, .inl fb))]) A
set_option maxHeartbeats 4000000 in
set_option maxRecDepth 100000 in
theorem c_X4_b_ok (l : Launch) (dC : Nat → ClassId) (dI : Nat → Nat → Nat) (mo ma mb lo hi kp ot su k rs : Nat) (tv : Int32) (cI : ClassId) (fb : Nat → Int32) (j : Nat) (sz : Nat) (zk1 : 1 ≤ k) (zk : k ≤ 8) (zj : j < 2 ^ k) : Met l yX4_b wsX4_b ({ frames := 1, cells := 0, slots := 0, locals := 21 }) (va_Pc [.ref mo, .int (nI j)] (fun U => U.heap.size = sz ∧ va_P (dC, dI) vwCl [(mo, .inr (3, [.int tv, .int (nI (2 ^ k)), .ref ma, .ref mb, .int (nI rs), .ref lo, .ref hi, .ref kp, .ref ot, .ref su])), (mb, .inl (cI, 256, .inl fb))] U.heap ∧ va_K (dC, dI) vwCl [(cI, .int)] U ∧ va_D (fun _ => True) [(mo, .inr (3, [.int tv, .int (nI (2 ^ k)), .ref ma, .ref mb, .int (nI rs), .ref lo, .ref hi, .ref kp, .ref ot, .ref su])), (mb, .inl (cI, 256, .inl fb))])) (q_X4_b_ok dC dI mo ma mb lo hi kp ot su k rs tv cI fb j (va_A [(mo, .inr (3, [.int tv, .int (nI (2 ^ k)), .ref ma, .ref mb, .int (nI rs), .ref lo, .ref hi, .ref kp, .ref ot, .ref su])), (mb, .inl (cI, 256, .inl fb))] sz)) 0 0 (va_A [(mo, .inr (3, [.int tv, .int (nI (2 ^ k)), .ref ma, .ref mb, .int (nI rs), .ref lo, .ref hi, .ref kp, .ref ot, .ref su])), (mb, .inl (cI, 256, .inl fb))] sz) := by
  refine Met.ofW (cc := cX4_b) (maxL := 2) (ret := (some .int)) (by decide) rfl ?_
  intro p e s m args below meth c s₁ B hml hv
  obtain ⟨rfl, hsz, hP, hK, hD0⟩ := hv
  have hx := B.exec
  have hb := B.bytes
  have hr := B.returns
  have hts := atoms_spec (ws := wsX4_b) B.pre
  have hown : s.vm.findClass RX4 = some m.cls := findClass_of_methodNamed B.named
  have hlocks := B.notSynchronized
  subst hsz
  have hD := hD0.self (sz := s.heap.size)
  generalize hAe : va_A [(mo, .inr (3, [.int tv, .int (nI (2 ^ k)), .ref ma, .ref mb, .int (nI rs), .ref lo, .ref hi, .ref kp, .ref ot, .ref su])), (mb, .inl (cI, 256, .inl fb))] s.heap.size = A at hD ⊢
  have hA : ∀ q : Nat, s.heap.size ≤ q → A q := fun q h => by rw [← hAe]; exact Or.inr h
  have hS : va_S A s.heap s.heap [] := va_S.rf
  have hP : va_P (dC, dI) vwCl [(mo, .inr (3, [.int tv, .int (nI (2 ^ k)), .ref ma, .ref mb, .int (nI rs), .ref lo, .ref hi, .ref kp, .ref ot, .ref su])), (mb, .inl (cI, 256, .inl fb))] s.heap := hP
  have hl := lv_entry (([.ref mo, .int (nI j)] : List Value)) (n := 2) (Nat.le_of_ble_eq_true rfl)
  rw [lg_entry_eq]
  generalize (lg_sl (([.ref mo, .int (nI j)] : List Value)) ++ List.replicate (2 - (lg_sl (([.ref mo, .int (nI j)] : List Value))).length) Slot.unset).toArray = ls at hl ⊢
  have hl : lv_has ls 2 [(0, .ref mo), (1, .int (nI j))] := hl
  obtain ⟨H, hHe⟩ : ∃ H : Heap, H = s.heap := ⟨_, rfl⟩
  rw [← hHe] at hP
  have hS : va_S A s.heap H [] := by rw [hHe]; exact hS
  obtain ⟨locs, hlo⟩ : ∃ L : List Loc, L = [] := ⟨_, rfl⟩
  rw [← hlo] at hS ⊢
  rw [← hHe]
  have hpk := pw8 zk
  refine lv_aload_n hx hb dX4_b_0 rfl (lv_at hl 0 rfl) ?_
  refine lv_iload_n hx hb dX4_b_1 rfl (lv_at hl 1 rfl) ?_
  have hPc := hP.sub (ws' := [(mo, .inr (3, [.int tv, .int (nI (2 ^ k)), .ref ma, .ref mb, .int (nI rs), .ref lo, .ref hi, .ref kp, .ref ot, .ref su]))]) [0] rfl
  have hDc := hD.sub (ws' := [(mo, .inr (3, [.int tv, .int (nI (2 ^ k)), .ref ma, .ref mb, .int (nI rs), .ref lo, .ref hi, .ref kp, .ref ot, .ref su]))]) [0] (by decide) rfl
  have hKc := hK.sub (tys' := []) [] rfl
  have hFc := va_free (wc := [(mo, .inr (3, [.int tv, .int (nI (2 ^ k)), .ref ma, .ref mb, .int (nI rs), .ref lo, .ref hi, .ref kp, .ref ot, .ref su]))]) hD hS hA [0] rfl
  refine va_calli (va_runV (As := [.int (nI j)]) (rest := []) ⟨hx, hb, hml, hown, hts⟩ (c_X4_noPlace_ok l dC dI mo ma mb lo hi kp ot su k rs tv j H.size (by omega) (by omega) (by omega)) (cwV 1 hts gX4_b_X4_noPlace rfl rfl rfl (by decide +kernel) ⟨Nat.le_of_ble_eq_true rfl, Nat.le_of_ble_eq_true rfl⟩) ⟨fun a U g mk q => by obtain ⟨q0, q1, qP, qK, qD⟩ := q; exact ⟨q0, q1, qP, va_K.moved (u := U) (U := U.calling g mk a) (Vm.Alike.refl U.vm) qK, qD⟩, va_recv hKc hPc (ci := 3) (q0 := 0) rfl rfl, fun U hU hW => ⟨rfl, by rw [hU], by rw [hU]; exact hPc, va_K.moved hW.alike hKc, hDc.weaken (fun _ _ _ _ => trivial)⟩⟩ rfl rfl hl.1 rfl (lv_room (Nat.le_of_ble_eq_true rfl)) dX4_b_2 ⟨Nat.le_of_ble_eq_true rfl, Nat.le_of_ble_eq_true rfl⟩) hS (fun q _ h => hFc q h) hFc (fun r9 u9 t9 H1 locs ht hvm hw hB hz1 hk1 hS => ?_)
  obtain ⟨hP1, hD1⟩ := hB
  rw [ht] at hP1
  try dsimp only at hw
  obtain ⟨hP, hD⟩ := va_join (wr := [(mb, .inl (cI, 256, .inl fb))]) (w1 := [(mo, .inr (3, [.int (nI 0), .int (nI (2 ^ k)), .ref ma, .ref mb, .int (nI rs), .ref lo, .ref hi, .ref kp, .ref ot, .ref su]))]) hP hD [0] [1] rfl rfl (by decide) (by decide) hk1 hFc hP1 hD1
  generalize H1 = H at hP hS ⊢
  have hP : va_P (dC, dI) vwCl [(mb, .inl (cI, 256, .inl fb)), (mo, .inr (3, [.int (nI 0), .int (nI (2 ^ k)), .ref ma, .ref mb, .int (nI rs), .ref lo, .ref hi, .ref kp, .ref ot, .ref su]))] H := hP
  have hD : va_D A [(mb, .inl (cI, 256, .inl fb)), (mo, .inr (3, [.int (nI 0), .int (nI (2 ^ k)), .ref ma, .ref mb, .int (nI rs), .ref lo, .ref hi, .ref kp, .ref ot, .ref su]))] := hD
  clear hPc hDc hKc hFc hP1 hD1 hk1 hz1 hvm ht
  subst hw
  refine lv_if_eq (tgt := 12) hx hb dX4_b_5 (by decide) (fun c_1 => ?_) (fun c_1 => ?_)
  · have c_1 : 0 = 0 := (nI_eq (a := 0) (b := 0) (by omega) (by omega)).mp c_1
    refine lv_aload_n hx hb dX4_b_12 rfl (lv_at hl 0 rfl) ?_
    refine va_get (D := (dC, dI)) (ci := 3) (v := .ref mb) (C := RX4) (T := TX4) (N := 10) hx hb hts (by decide +kernel) hown hK hP 1 rfl rfl 3 (by decide) (hts (.fieldLink RX4 17 "ThreePrimesModel" "b" "[I") (by decide +kernel)) (fun _ h9 => h9) rfl dX4_b_13 ?_
    refine lv_iload_n hx hb dX4_b_16 rfl (lv_at hl 1 rfl) ?_
    refine va_iald hx hb hK hP 0 0 rfl rfl (vp_in_nI (by omega) (by omega)) dX4_b_17 ?_
    refine W.eq (g2 := F0 m _ ls [.int (fb j)]) (by rw [nI_clamp (by omega)]) ?_
    have hP9 : va_P (dC, dI) vwCl [(mo, .inr (3, [.int (nI 0), .int (nI (2 ^ k)), .ref ma, .ref mb, .int (nI rs), .ref lo, .ref hi, .ref kp, .ref ot, .ref su])), (mb, .inl (cI, 256, .inl fb))] H := hP.sub [1, 0] rfl
    have hD9 : va_D A [(mo, .inr (3, [.int (nI 0), .int (nI (2 ^ k)), .ref ma, .ref mb, .int (nI rs), .ref lo, .ref hi, .ref kp, .ref ot, .ref su])), (mb, .inl (cI, 256, .inl fb))] := hD.sub [1, 0] (by decide) rfl
    exact W.iret (v := fb j) hx hb hr (fun tq9 ht hW => ⟨⟨fb j, (), rfl, rfl, by rw [ht]; exact hP9, hD9⟩, hS.F ht⟩) hS.2.2 dX4_b_18
  · have c_1 : ¬ (0 = 0) := fun zq9 => c_1 ((nI_eq (a := 0) (b := 0) (by omega) (by omega)).mpr zq9)
    omega

abbrev q_X4_b_bad (dC : Nat → ClassId) (dI : Nat → Nat → Nat) (mo ma mb lo hi kp ot su k rs : Nat) (tv : Int32) (i : Int32) (A : Nat → Prop) : Array Value → State → Outcome → State → Prop := va_Qi (fun (r : Int32) (u : Unit) => True) (fun u t => va_P (dC, dI) vwCl [(mo, .inr (3, [.int (nI 1), .int (nI (2 ^ k)), .ref ma, .ref mb, .int (nI rs), .ref lo, .ref hi, .ref kp, .ref ot, .ref su]))] t.heap ∧ va_D A [(mo, .inr (3, [.int (nI 1), .int (nI (2 ^ k)), .ref ma, .ref mb, .int (nI rs), .ref lo, .ref hi, .ref kp, .ref ot, .ref su]))]) A
set_option maxHeartbeats 4000000 in
set_option maxRecDepth 100000 in
theorem c_X4_b_bad (l : Launch) (dC : Nat → ClassId) (dI : Nat → Nat → Nat) (mo ma mb lo hi kp ot su k rs : Nat) (tv : Int32) (i : Int32) (sz : Nat) (zk1 : 1 ≤ k) (zk : k ≤ 8) (hbad : i < 0 ∨ nI (2 ^ k) ≤ i) : Met l yX4_b wsX4_b ({ frames := 1, cells := 0, slots := 0, locals := 21 }) (va_Pc [.ref mo, .int i] (fun U => U.heap.size = sz ∧ va_P (dC, dI) vwCl [(mo, .inr (3, [.int tv, .int (nI (2 ^ k)), .ref ma, .ref mb, .int (nI rs), .ref lo, .ref hi, .ref kp, .ref ot, .ref su]))] U.heap ∧ va_K (dC, dI) vwCl [] U ∧ va_D (fun _ => True) [(mo, .inr (3, [.int tv, .int (nI (2 ^ k)), .ref ma, .ref mb, .int (nI rs), .ref lo, .ref hi, .ref kp, .ref ot, .ref su]))])) (q_X4_b_bad dC dI mo ma mb lo hi kp ot su k rs tv i (va_A [(mo, .inr (3, [.int tv, .int (nI (2 ^ k)), .ref ma, .ref mb, .int (nI rs), .ref lo, .ref hi, .ref kp, .ref ot, .ref su]))] sz)) 0 0 (va_A [(mo, .inr (3, [.int tv, .int (nI (2 ^ k)), .ref ma, .ref mb, .int (nI rs), .ref lo, .ref hi, .ref kp, .ref ot, .ref su]))] sz) := by
  refine Met.ofW (cc := cX4_b) (maxL := 2) (ret := (some .int)) (by decide) rfl ?_
  intro p e s m args below meth c s₁ B hml hv
  obtain ⟨rfl, hsz, hP, hK, hD0⟩ := hv
  have hx := B.exec
  have hb := B.bytes
  have hr := B.returns
  have hts := atoms_spec (ws := wsX4_b) B.pre
  have hown : s.vm.findClass RX4 = some m.cls := findClass_of_methodNamed B.named
  have hlocks := B.notSynchronized
  subst hsz
  have hD := hD0.self (sz := s.heap.size)
  generalize hAe : va_A [(mo, .inr (3, [.int tv, .int (nI (2 ^ k)), .ref ma, .ref mb, .int (nI rs), .ref lo, .ref hi, .ref kp, .ref ot, .ref su]))] s.heap.size = A at hD ⊢
  have hA : ∀ q : Nat, s.heap.size ≤ q → A q := fun q h => by rw [← hAe]; exact Or.inr h
  have hS : va_S A s.heap s.heap [] := va_S.rf
  have hP : va_P (dC, dI) vwCl [(mo, .inr (3, [.int tv, .int (nI (2 ^ k)), .ref ma, .ref mb, .int (nI rs), .ref lo, .ref hi, .ref kp, .ref ot, .ref su]))] s.heap := hP
  have hl := lv_entry (([.ref mo, .int i] : List Value)) (n := 2) (Nat.le_of_ble_eq_true rfl)
  rw [lg_entry_eq]
  generalize (lg_sl (([.ref mo, .int i] : List Value)) ++ List.replicate (2 - (lg_sl (([.ref mo, .int i] : List Value))).length) Slot.unset).toArray = ls at hl ⊢
  have hl : lv_has ls 2 [(0, .ref mo), (1, .int i)] := hl
  obtain ⟨H, hHe⟩ : ∃ H : Heap, H = s.heap := ⟨_, rfl⟩
  rw [← hHe] at hP
  have hS : va_S A s.heap H [] := by rw [hHe]; exact hS
  obtain ⟨locs, hlo⟩ : ∃ L : List Loc, L = [] := ⟨_, rfl⟩
  rw [← hlo] at hS ⊢
  rw [← hHe]
  have hpk := pw8 zk
  refine lv_aload_n hx hb dX4_b_0 rfl (lv_at hl 0 rfl) ?_
  refine lv_iload_n hx hb dX4_b_1 rfl (lv_at hl 1 rfl) ?_
  have hPc := hP.sub (ws' := [(mo, .inr (3, [.int tv, .int (nI (2 ^ k)), .ref ma, .ref mb, .int (nI rs), .ref lo, .ref hi, .ref kp, .ref ot, .ref su]))]) [0] rfl
  have hDc := hD.sub (ws' := [(mo, .inr (3, [.int tv, .int (nI (2 ^ k)), .ref ma, .ref mb, .int (nI rs), .ref lo, .ref hi, .ref kp, .ref ot, .ref su]))]) [0] (by decide) rfl
  have hKc := hK.sub (tys' := []) [] rfl
  have hFc := va_free (wc := [(mo, .inr (3, [.int tv, .int (nI (2 ^ k)), .ref ma, .ref mb, .int (nI rs), .ref lo, .ref hi, .ref kp, .ref ot, .ref su]))]) hD hS hA [0] rfl
  refine va_calli (va_runV (As := [.int i]) (rest := []) ⟨hx, hb, hml, hown, hts⟩ (c_X4_noPlace_bad l dC dI mo ma mb lo hi kp ot su k rs tv i H.size (by omega) (by omega) hbad) (cwV 1 hts gX4_b_X4_noPlace rfl rfl rfl (by decide +kernel) ⟨Nat.le_of_ble_eq_true rfl, Nat.le_of_ble_eq_true rfl⟩) ⟨fun a U g mk q => by obtain ⟨q0, q1, qP, qK, qD⟩ := q; exact ⟨q0, q1, qP, va_K.moved (u := U) (U := U.calling g mk a) (Vm.Alike.refl U.vm) qK, qD⟩, va_recv hKc hPc (ci := 3) (q0 := 0) rfl rfl, fun U hU hW => ⟨rfl, by rw [hU], by rw [hU]; exact hPc, va_K.moved hW.alike hKc, hDc.weaken (fun _ _ _ _ => trivial)⟩⟩ rfl rfl hl.1 rfl (lv_room (Nat.le_of_ble_eq_true rfl)) dX4_b_2 ⟨Nat.le_of_ble_eq_true rfl, Nat.le_of_ble_eq_true rfl⟩) hS (fun q _ h => hFc q h) hFc (fun r9 u9 t9 H1 locs ht hvm hw hB hz1 hk1 hS => ?_)
  obtain ⟨hP1, hD1⟩ := hB
  rw [ht] at hP1
  try dsimp only at hw
  obtain ⟨hP, hD⟩ := va_join (wr := []) (w1 := [(mo, .inr (3, [.int (nI 1), .int (nI (2 ^ k)), .ref ma, .ref mb, .int (nI rs), .ref lo, .ref hi, .ref kp, .ref ot, .ref su]))]) hP hD [0] [] rfl rfl (by decide) (by decide) hk1 hFc hP1 hD1
  generalize H1 = H at hP hS ⊢
  have hP : va_P (dC, dI) vwCl [(mo, .inr (3, [.int (nI 1), .int (nI (2 ^ k)), .ref ma, .ref mb, .int (nI rs), .ref lo, .ref hi, .ref kp, .ref ot, .ref su]))] H := hP
  have hD : va_D A [(mo, .inr (3, [.int (nI 1), .int (nI (2 ^ k)), .ref ma, .ref mb, .int (nI rs), .ref lo, .ref hi, .ref kp, .ref ot, .ref su]))] := hD
  clear hPc hDc hKc hFc hP1 hD1 hk1 hz1 hvm ht
  subst hw
  refine lv_if_eq (tgt := 12) hx hb dX4_b_5 (by decide) (fun c_1 => ?_) (fun c_1 => ?_)
  · have c_1 : 1 = 0 := (nI_eq (a := 1) (b := 0) (by omega) (by omega)).mp c_1
    omega
  · have c_1 : ¬ (1 = 0) := fun zq9 => c_1 ((nI_eq (a := 1) (b := 0) (by omega) (by omega)).mpr zq9)
    refine lv_iconst (v := nI 0) hx hb dX4_b_8 (by decide) ?_
    refine lv_goto (tgt := 18) hx hb dX4_b_9 (by decide) ?_
    have hP9 : va_P (dC, dI) vwCl [(mo, .inr (3, [.int (nI 1), .int (nI (2 ^ k)), .ref ma, .ref mb, .int (nI rs), .ref lo, .ref hi, .ref kp, .ref ot, .ref su]))] H := hP.sub [0] rfl
    have hD9 : va_D A [(mo, .inr (3, [.int (nI 1), .int (nI (2 ^ k)), .ref ma, .ref mb, .int (nI rs), .ref lo, .ref hi, .ref kp, .ref ot, .ref su]))] := hD.sub [0] (by decide) rfl
    exact W.iret (v := nI 0) hx hb hr (fun tq9 ht hW => ⟨⟨nI 0, (), rfl, trivial, by rw [ht]; exact hP9, hD9⟩, hS.F ht⟩) hS.2.2 dX4_b_18

abbrev q_X4_size_ok (dC : Nat → ClassId) (dI : Nat → Nat → Nat) (mo ma mb lo hi kp ot su k rs : Nat) (tv : Int32) (cI : ClassId) (fa fb : Nat → Int32) (n : Nat) (A : Nat → Prop) : Array Value → State → Outcome → State → Prop := va_Qv (fun (u : Unit) => True) (fun u t => va_P (dC, dI) vwCl [(mo, .inr (3, [.int (nI 0), .int (nI (2 ^ n)), .ref ma, .ref mb, .int (nI 0), .ref lo, .ref hi, .ref kp, .ref ot, .ref su])), (ma, .inl (cI, 256, .inl (zrI fa 256))), (mb, .inl (cI, 256, .inl (zrI fb 256)))] t.heap ∧ va_D A [(mo, .inr (3, [.int (nI 0), .int (nI (2 ^ n)), .ref ma, .ref mb, .int (nI 0), .ref lo, .ref hi, .ref kp, .ref ot, .ref su])), (ma, .inl (cI, 256, .inl (zrI fa 256))), (mb, .inl (cI, 256, .inl (zrI fb 256)))]) A
set_option maxHeartbeats 4000000 in
set_option maxRecDepth 100000 in
theorem c_X4_size_ok (l : Launch) (dC : Nat → ClassId) (dI : Nat → Nat → Nat) (mo ma mb lo hi kp ot su k rs : Nat) (tv : Int32) (cI : ClassId) (fa fb : Nat → Int32) (n : Nat) (sz : Nat) (zk1 : 1 ≤ n) (zk0 : n ≤ 8) : Met l yX4_size wsX4_size ({ frames := 0, cells := 0, slots := 0, locals := 0 }) (va_Pc [.ref mo, .int (nI n)] (fun U => U.heap.size = sz ∧ va_P (dC, dI) vwCl [(mo, .inr (3, [.int tv, .int (nI (2 ^ k)), .ref ma, .ref mb, .int (nI rs), .ref lo, .ref hi, .ref kp, .ref ot, .ref su])), (ma, .inl (cI, 256, .inl fa)), (mb, .inl (cI, 256, .inl fb))] U.heap ∧ va_K (dC, dI) vwCl [(cI, .int)] U ∧ va_D (fun _ => True) [(mo, .inr (3, [.int tv, .int (nI (2 ^ k)), .ref ma, .ref mb, .int (nI rs), .ref lo, .ref hi, .ref kp, .ref ot, .ref su])), (ma, .inl (cI, 256, .inl fa)), (mb, .inl (cI, 256, .inl fb))])) (q_X4_size_ok dC dI mo ma mb lo hi kp ot su k rs tv cI fa fb n (va_A [(mo, .inr (3, [.int tv, .int (nI (2 ^ k)), .ref ma, .ref mb, .int (nI rs), .ref lo, .ref hi, .ref kp, .ref ot, .ref su])), (ma, .inl (cI, 256, .inl fa)), (mb, .inl (cI, 256, .inl fb))] sz)) 0 0 (va_A [(mo, .inr (3, [.int tv, .int (nI (2 ^ k)), .ref ma, .ref mb, .int (nI rs), .ref lo, .ref hi, .ref kp, .ref ot, .ref su])), (ma, .inl (cI, 256, .inl fa)), (mb, .inl (cI, 256, .inl fb))] sz) := by
  refine Met.ofW (cc := cX4_size) (maxL := 3) (ret := none) (by decide) rfl ?_
  intro p e s m args below meth c s₁ B hml hv
  obtain ⟨rfl, hsz, hP, hK, hD0⟩ := hv
  have hx := B.exec
  have hb := B.bytes
  have hr := B.returns
  have hts := atoms_spec (ws := wsX4_size) B.pre
  have hown : s.vm.findClass RX4 = some m.cls := findClass_of_methodNamed B.named
  have hlocks := B.notSynchronized
  subst hsz
  have hD := hD0.self (sz := s.heap.size)
  generalize hAe : va_A [(mo, .inr (3, [.int tv, .int (nI (2 ^ k)), .ref ma, .ref mb, .int (nI rs), .ref lo, .ref hi, .ref kp, .ref ot, .ref su])), (ma, .inl (cI, 256, .inl fa)), (mb, .inl (cI, 256, .inl fb))] s.heap.size = A at hD ⊢
  have hA : ∀ q : Nat, s.heap.size ≤ q → A q := fun q h => by rw [← hAe]; exact Or.inr h
  have hS : va_S A s.heap s.heap [] := va_S.rf
  have hP : va_P (dC, dI) vwCl [(mo, .inr (3, [.int tv, .int (nI (2 ^ k)), .ref ma, .ref mb, .int (nI rs), .ref lo, .ref hi, .ref kp, .ref ot, .ref su])), (ma, .inl (cI, 256, .inl fa)), (mb, .inl (cI, 256, .inl fb))] s.heap := hP
  have hl := lv_entry (([.ref mo, .int (nI n)] : List Value)) (n := 3) (Nat.le_of_ble_eq_true rfl)
  rw [lg_entry_eq]
  generalize (lg_sl (([.ref mo, .int (nI n)] : List Value)) ++ List.replicate (3 - (lg_sl (([.ref mo, .int (nI n)] : List Value))).length) Slot.unset).toArray = ls at hl ⊢
  have hl : lv_has ls 3 [(0, .ref mo), (1, .int (nI n))] := hl
  obtain ⟨H, hHe⟩ : ∃ H : Heap, H = s.heap := ⟨_, rfl⟩
  rw [← hHe] at hP
  have hS : va_S A s.heap H [] := by rw [hHe]; exact hS
  obtain ⟨locs, hlo⟩ : ∃ L : List Loc, L = [] := ⟨_, rfl⟩
  rw [← hlo] at hS ⊢
  rw [← hHe]
  have hpk := pw8 zk0
  refine lv_aload_n hx hb dX4_size_0 rfl (lv_at hl 0 rfl) ?_
  refine lv_iload_n hx hb dX4_size_1 rfl (lv_at hl 1 rfl) ?_
  refine lv_iconst (v := nI 1) hx hb dX4_size_2 (by decide) ?_
  refine lv_icmp_lt (tgt := 12) hx hb dX4_size_3 (by decide) (fun c_1 => ?_) (fun c_1 => ?_)
  · have c_1 : n < 1 := (nI_ltI (a := n) (b := 1) (by omega) (by omega)).mp c_1
    omega
  · have c_1 : ¬ (n < 1) := fun zq9 => c_1 ((nI_ltI (a := n) (b := 1) (by omega) (by omega)).mpr zq9)
    refine lv_iload_n hx hb dX4_size_6 rfl (lv_at hl 1 rfl) ?_
    refine lv_bipush (v := nI 8) hx hb dX4_size_7 (by decide) ?_
    refine lv_icmp_le (tgt := 16) hx hb dX4_size_9 (by decide) (fun c_2 => ?_) (fun c_2 => ?_)
    · have c_2 : n ≤ 8 := (nI_leI (a := n) (b := 8) (by omega) (by omega)).mp c_2
      refine lv_iconst (v := nI 0) hx hb dX4_size_16 (by decide) ?_
      refine va_put (D := (dC, dI)) (ci := 3) (v := .int (nI 0)) (ty := .int) (C := RX4) (T := TX4) (N := 10) hx hb hts (by decide +kernel) tyX4 tyX4_ok nmX4 hown hK hP hD hS 0 rfl rfl 0 (by decide) (hts (.fieldLink RX4 36 "ThreePrimesModel" "thrown" "I") (by decide +kernel)) (fun _ h9 => h9) rfl (by decide +kernel) rfl rfl (Nat.le_of_ble_eq_true rfl) dX4_size_17 (fun H locs hP hD hS => ?_)
      have hP : va_P (dC, dI) vwCl [(mo, .inr (3, [.int (nI 0), .int (nI (2 ^ k)), .ref ma, .ref mb, .int (nI rs), .ref lo, .ref hi, .ref kp, .ref ot, .ref su])), (ma, .inl (cI, 256, .inl fa)), (mb, .inl (cI, 256, .inl fb))] H := hP
      have hD : va_D A [(mo, .inr (3, [.int (nI 0), .int (nI (2 ^ k)), .ref ma, .ref mb, .int (nI rs), .ref lo, .ref hi, .ref kp, .ref ot, .ref su])), (ma, .inl (cI, 256, .inl fa)), (mb, .inl (cI, 256, .inl fb))] := hD
      refine lv_aload_n hx hb dX4_size_20 rfl (lv_at hl 0 rfl) ?_
      refine va_get (D := (dC, dI)) (ci := 3) (v := .int (nI 0)) (C := RX4) (T := TX4) (N := 10) hx hb hts (by decide +kernel) hown hK hP 0 rfl rfl 0 (by decide) (hts (.fieldLink RX4 36 "ThreePrimesModel" "thrown" "I") (by decide +kernel)) (fun _ h9 => h9) rfl dX4_size_21 ?_
      refine lv_if_le (tgt := 28) hx hb dX4_size_24 (by decide) (fun c_3 => ?_) (fun c_3 => ?_)
      · have c_3 : 0 ≤ 0 := (nI_leI (a := 0) (b := 0) (by omega) (by omega)).mp c_3
        refine lv_aload_n hx hb dX4_size_28 rfl (lv_at hl 0 rfl) ?_
        refine lv_iconst (v := nI 1) hx hb dX4_size_29 (by decide) ?_
        refine lv_iload_n hx hb dX4_size_30 rfl (lv_at hl 1 rfl) ?_
        refine lv_ishl hx hb dX4_size_31 ?_
        refine W.eq (congrArg (fun z => F0 m _ ls (.int z :: _)) (show (nI 1) <<< ((nI n) &&& 31) = nI (2 ^ n) from zz_shl (by omega))) ?_
        refine va_put (D := (dC, dI)) (ci := 3) (v := .int (nI (2 ^ n))) (ty := .int) (C := RX4) (T := TX4) (N := 10) hx hb hts (by decide +kernel) tyX4 tyX4_ok nmX4 hown hK hP hD hS 0 rfl rfl 1 (by decide) (hts (.fieldLink RX4 7 "ThreePrimesModel" "n" "I") (by decide +kernel)) (fun _ h9 => h9) rfl (by decide +kernel) rfl rfl (Nat.le_of_ble_eq_true rfl) dX4_size_32 (fun H locs hP hD hS => ?_)
        have hP : va_P (dC, dI) vwCl [(mo, .inr (3, [.int (nI 0), .int (nI (2 ^ n)), .ref ma, .ref mb, .int (nI rs), .ref lo, .ref hi, .ref kp, .ref ot, .ref su])), (ma, .inl (cI, 256, .inl fa)), (mb, .inl (cI, 256, .inl fb))] H := hP
        have hD : va_D A [(mo, .inr (3, [.int (nI 0), .int (nI (2 ^ n)), .ref ma, .ref mb, .int (nI rs), .ref lo, .ref hi, .ref kp, .ref ot, .ref su])), (ma, .inl (cI, 256, .inl fa)), (mb, .inl (cI, 256, .inl fb))] := hD
        refine lv_aload_n hx hb dX4_size_35 rfl (lv_at hl 0 rfl) ?_
        refine lv_iconst (v := nI 0) hx hb dX4_size_36 (by decide) ?_
        refine va_put (D := (dC, dI)) (ci := 3) (v := .int (nI 0)) (ty := .int) (C := RX4) (T := TX4) (N := 10) hx hb hts (by decide +kernel) tyX4 tyX4_ok nmX4 hown hK hP hD hS 0 rfl rfl 4 (by decide) (hts (.fieldLink RX4 39 "ThreePrimesModel" "results" "I") (by decide +kernel)) (fun _ h9 => h9) rfl (by decide +kernel) rfl rfl (Nat.le_of_ble_eq_true rfl) dX4_size_37 (fun H locs hP hD hS => ?_)
        have hP : va_P (dC, dI) vwCl [(mo, .inr (3, [.int (nI 0), .int (nI (2 ^ n)), .ref ma, .ref mb, .int (nI 0), .ref lo, .ref hi, .ref kp, .ref ot, .ref su])), (ma, .inl (cI, 256, .inl fa)), (mb, .inl (cI, 256, .inl fb))] H := hP
        have hD : va_D A [(mo, .inr (3, [.int (nI 0), .int (nI (2 ^ n)), .ref ma, .ref mb, .int (nI 0), .ref lo, .ref hi, .ref kp, .ref ot, .ref su])), (ma, .inl (cI, 256, .inl fa)), (mb, .inl (cI, 256, .inl fb))] := hD
        refine lv_iconst (v := nI 0) hx hb dX4_size_40 (by decide) ?_
        rw [show fa = zrI fa 0 from (zrI_0 _).symm] at hP hD
        have hP : va_P (dC, dI) vwCl [(mo, .inr (3, [.int (nI 0), .int (nI (2 ^ n)), .ref ma, .ref mb, .int (nI 0), .ref lo, .ref hi, .ref kp, .ref ot, .ref su])), (ma, .inl (cI, 256, .inl (zrI fa 0))), (mb, .inl (cI, 256, .inl fb))] H := hP
        have hD : va_D A [(mo, .inr (3, [.int (nI 0), .int (nI (2 ^ n)), .ref ma, .ref mb, .int (nI 0), .ref lo, .ref hi, .ref kp, .ref ot, .ref su])), (ma, .inl (cI, 256, .inl (zrI fa 0))), (mb, .inl (cI, 256, .inl fb))] := hD
        rw [show fb = zrI fb 0 from (zrI_0 _).symm] at hP hD
        have hP : va_P (dC, dI) vwCl [(mo, .inr (3, [.int (nI 0), .int (nI (2 ^ n)), .ref ma, .ref mb, .int (nI 0), .ref lo, .ref hi, .ref kp, .ref ot, .ref su])), (ma, .inl (cI, 256, .inl (zrI fa 0))), (mb, .inl (cI, 256, .inl (zrI fb 0)))] H := hP
        have hD : va_D A [(mo, .inr (3, [.int (nI 0), .int (nI (2 ^ n)), .ref ma, .ref mb, .int (nI 0), .ref lo, .ref hi, .ref kp, .ref ot, .ref su])), (ma, .inl (cI, 256, .inl (zrI fa 0))), (mb, .inl (cI, 256, .inl (zrI fb 0)))] := hD
        refine lv_istore_n (lv' := [(2, .int (nI 0)), (0, .ref mo), (1, .int (nI n))]) hx hb dX4_size_41 rfl hl (by decide) rfl (fun ls hl => ?_)
        have key_42 : ∀ (fuel : Nat) (t : Nat), (t ≤ 256) → (256 - t < fuel) → ∀ (H : Heap) (locs : List Loc) (ls : Array Slot), va_P (dC, dI) vwCl [(mo, .inr (3, [.int (nI 0), .int (nI (2 ^ n)), .ref ma, .ref mb, .int (nI 0), .ref lo, .ref hi, .ref kp, .ref ot, .ref su])), (ma, .inl (cI, 256, .inl (zrI fa t))), (mb, .inl (cI, 256, .inl (zrI fb t)))] H → va_D A [(mo, .inr (3, [.int (nI 0), .int (nI (2 ^ n)), .ref ma, .ref mb, .int (nI 0), .ref lo, .ref hi, .ref kp, .ref ot, .ref su])), (ma, .inl (cI, 256, .inl (zrI fa t))), (mb, .inl (cI, 256, .inl (zrI fb t)))] → va_S A s.heap H locs → lv_has ls 3 [(2, .int (nI t)), (0, .ref mo)] → W p l e (headSpec wsX4_size { frames := 0, cells := 0, slots := 0, locals := 0 }).room s m ([.ref mo, .int (nI n)] : List Value).toArray below meth c H locs 0 0 (MQ below (q_X4_size_ok dC dI mo ma mb lo hi kp ot su k rs tv cI fa fb n  A) ([.ref mo, .int (nI n)] : List Value).toArray s 0 0 A) (F0 m 42 ls []) := by
          intro fuel
          induction fuel with
          | zero => intro t; intros; omega
          | succ fuel ih_42 =>
            intro t ht hfu H locs ls hP hD hS hl
            refine lv_iload_n hx hb dX4_size_42 rfl (lv_at hl 0 rfl) ?_
            refine lv_sipush (v := nI 256) hx hb dX4_size_43 (by decide) ?_
            refine lv_icmp_ge (tgt := 69) hx hb dX4_size_46 (by decide) (fun c_4 => ?_) (fun c_4 => ?_)
            · have c_4 : 256 ≤ t := (nI_leI (a := 256) (b := t) (by omega) (by omega)).mp c_4
              rw [show zrI fa t = zrI fa 256 from by rw [show t = 256 by omega]] at hP hD
              have hP : va_P (dC, dI) vwCl [(mo, .inr (3, [.int (nI 0), .int (nI (2 ^ n)), .ref ma, .ref mb, .int (nI 0), .ref lo, .ref hi, .ref kp, .ref ot, .ref su])), (ma, .inl (cI, 256, .inl (zrI fa 256))), (mb, .inl (cI, 256, .inl (zrI fb t)))] H := hP
              have hD : va_D A [(mo, .inr (3, [.int (nI 0), .int (nI (2 ^ n)), .ref ma, .ref mb, .int (nI 0), .ref lo, .ref hi, .ref kp, .ref ot, .ref su])), (ma, .inl (cI, 256, .inl (zrI fa 256))), (mb, .inl (cI, 256, .inl (zrI fb t)))] := hD
              rw [show zrI fb t = zrI fb 256 from by rw [show t = 256 by omega]] at hP hD
              have hP : va_P (dC, dI) vwCl [(mo, .inr (3, [.int (nI 0), .int (nI (2 ^ n)), .ref ma, .ref mb, .int (nI 0), .ref lo, .ref hi, .ref kp, .ref ot, .ref su])), (ma, .inl (cI, 256, .inl (zrI fa 256))), (mb, .inl (cI, 256, .inl (zrI fb 256)))] H := hP
              have hD : va_D A [(mo, .inr (3, [.int (nI 0), .int (nI (2 ^ n)), .ref ma, .ref mb, .int (nI 0), .ref lo, .ref hi, .ref kp, .ref ot, .ref su])), (ma, .inl (cI, 256, .inl (zrI fa 256))), (mb, .inl (cI, 256, .inl (zrI fb 256)))] := hD
              have hP9 : va_P (dC, dI) vwCl [(mo, .inr (3, [.int (nI 0), .int (nI (2 ^ n)), .ref ma, .ref mb, .int (nI 0), .ref lo, .ref hi, .ref kp, .ref ot, .ref su])), (ma, .inl (cI, 256, .inl (zrI fa 256))), (mb, .inl (cI, 256, .inl (zrI fb 256)))] H := hP.sub [0, 1, 2] rfl
              have hD9 : va_D A [(mo, .inr (3, [.int (nI 0), .int (nI (2 ^ n)), .ref ma, .ref mb, .int (nI 0), .ref lo, .ref hi, .ref kp, .ref ot, .ref su])), (ma, .inl (cI, 256, .inl (zrI fa 256))), (mb, .inl (cI, 256, .inl (zrI fb 256)))] := hD.sub [0, 1, 2] (by decide) rfl
              exact W.vret hx hb hr (fun tq9 ht hW => ⟨⟨(), rfl, trivial, by rw [ht]; exact hP9, hD9⟩, hS.F ht⟩) hS.2.2 dX4_size_69
            · have c_4 : ¬ (256 ≤ t) := fun zq9 => c_4 ((nI_leI (a := 256) (b := t) (by omega) (by omega)).mpr zq9)
              refine lv_aload_n hx hb dX4_size_49 rfl (lv_at hl 1 rfl) ?_
              refine va_get (D := (dC, dI)) (ci := 3) (v := .ref ma) (C := RX4) (T := TX4) (N := 10) hx hb hts (by decide +kernel) hown hK hP 0 rfl rfl 2 (by decide) (hts (.fieldLink RX4 13 "ThreePrimesModel" "a" "[I") (by decide +kernel)) (fun _ h9 => h9) rfl dX4_size_50 ?_
              refine lv_iload_n hx hb dX4_size_53 rfl (lv_at hl 0 rfl) ?_
              refine lv_iconst (v := nI 0) hx hb dX4_size_54 (by decide) ?_
              refine va_iast hx hb hK hP hD hS 1 0 rfl rfl (vp_in_nI (by omega) (by omega)) dX4_size_55 (fun H locs hP hD hS => ?_)
              rw [nI_clamp (show t < 2 ^ 31 by omega)] at hP hD
              have hP : va_P (dC, dI) vwCl [(mo, .inr (3, [.int (nI 0), .int (nI (2 ^ n)), .ref ma, .ref mb, .int (nI 0), .ref lo, .ref hi, .ref kp, .ref ot, .ref su])), (ma, .inl (cI, 256, .inl (upd (zrI fa t) t (nI 0)))), (mb, .inl (cI, 256, .inl (zrI fb t)))] H := hP
              have hD : va_D A [(mo, .inr (3, [.int (nI 0), .int (nI (2 ^ n)), .ref ma, .ref mb, .int (nI 0), .ref lo, .ref hi, .ref kp, .ref ot, .ref su])), (ma, .inl (cI, 256, .inl (upd (zrI fa t) t (nI 0)))), (mb, .inl (cI, 256, .inl (zrI fb t)))] := hD
              rw [show upd (zrI fa t) t (nI 0) = zrI fa (t + 1) from zrI_s] at hP hD
              have hP : va_P (dC, dI) vwCl [(mo, .inr (3, [.int (nI 0), .int (nI (2 ^ n)), .ref ma, .ref mb, .int (nI 0), .ref lo, .ref hi, .ref kp, .ref ot, .ref su])), (ma, .inl (cI, 256, .inl (zrI fa (t + 1)))), (mb, .inl (cI, 256, .inl (zrI fb t)))] H := hP
              have hD : va_D A [(mo, .inr (3, [.int (nI 0), .int (nI (2 ^ n)), .ref ma, .ref mb, .int (nI 0), .ref lo, .ref hi, .ref kp, .ref ot, .ref su])), (ma, .inl (cI, 256, .inl (zrI fa (t + 1)))), (mb, .inl (cI, 256, .inl (zrI fb t)))] := hD
              refine lv_aload_n hx hb dX4_size_56 rfl (lv_at hl 1 rfl) ?_
              refine va_get (D := (dC, dI)) (ci := 3) (v := .ref mb) (C := RX4) (T := TX4) (N := 10) hx hb hts (by decide +kernel) hown hK hP 0 rfl rfl 3 (by decide) (hts (.fieldLink RX4 17 "ThreePrimesModel" "b" "[I") (by decide +kernel)) (fun _ h9 => h9) rfl dX4_size_57 ?_
              refine lv_iload_n hx hb dX4_size_60 rfl (lv_at hl 0 rfl) ?_
              refine lv_iconst (v := nI 0) hx hb dX4_size_61 (by decide) ?_
              refine va_iast hx hb hK hP hD hS 2 0 rfl rfl (vp_in_nI (by omega) (by omega)) dX4_size_62 (fun H locs hP hD hS => ?_)
              rw [nI_clamp (show t < 2 ^ 31 by omega)] at hP hD
              have hP : va_P (dC, dI) vwCl [(mo, .inr (3, [.int (nI 0), .int (nI (2 ^ n)), .ref ma, .ref mb, .int (nI 0), .ref lo, .ref hi, .ref kp, .ref ot, .ref su])), (ma, .inl (cI, 256, .inl (zrI fa (t + 1)))), (mb, .inl (cI, 256, .inl (upd (zrI fb t) t (nI 0))))] H := hP
              have hD : va_D A [(mo, .inr (3, [.int (nI 0), .int (nI (2 ^ n)), .ref ma, .ref mb, .int (nI 0), .ref lo, .ref hi, .ref kp, .ref ot, .ref su])), (ma, .inl (cI, 256, .inl (zrI fa (t + 1)))), (mb, .inl (cI, 256, .inl (upd (zrI fb t) t (nI 0))))] := hD
              rw [show upd (zrI fb t) t (nI 0) = zrI fb (t + 1) from zrI_s] at hP hD
              have hP : va_P (dC, dI) vwCl [(mo, .inr (3, [.int (nI 0), .int (nI (2 ^ n)), .ref ma, .ref mb, .int (nI 0), .ref lo, .ref hi, .ref kp, .ref ot, .ref su])), (ma, .inl (cI, 256, .inl (zrI fa (t + 1)))), (mb, .inl (cI, 256, .inl (zrI fb (t + 1))))] H := hP
              have hD : va_D A [(mo, .inr (3, [.int (nI 0), .int (nI (2 ^ n)), .ref ma, .ref mb, .int (nI 0), .ref lo, .ref hi, .ref kp, .ref ot, .ref su])), (ma, .inl (cI, 256, .inl (zrI fa (t + 1)))), (mb, .inl (cI, 256, .inl (zrI fb (t + 1))))] := hD
              refine lv_iinc (v := nI (t + 1)) (lv' := [(2, .int (nI (t + 1))), (0, .ref mo)]) hx hb dX4_size_63 hl (k := 0) rfl (nI_add t 1) (by decide) rfl (fun ls hl => ?_)
              refine lv_goto (tgt := 42) hx hb dX4_size_66 (by decide) ?_
              exact ih_42  (t + 1) (by omega) (by omega) _ _ _ (hP.sub [0, 1, 2] rfl) (hD.sub [0, 1, 2] (by decide) rfl) hS (lv_sub hl [0, 1] rfl)
        exact key_42 257 0 (by omega) (by omega) _ _ _ (hP.sub [0, 1, 2] rfl) (hD.sub [0, 1, 2] (by decide) rfl) hS (lv_sub hl [0, 1] rfl)
      · have c_3 : ¬ (0 ≤ 0) := fun zq9 => c_3 ((nI_leI (a := 0) (b := 0) (by omega) (by omega)).mpr zq9)
        omega
    · have c_2 : ¬ (n ≤ 8) := fun zq9 => c_2 ((nI_leI (a := n) (b := 8) (by omega) (by omega)).mpr zq9)
      omega

abbrev q_X4_size_bad (dC : Nat → ClassId) (dI : Nat → Nat → Nat) (mo ma mb lo hi kp ot su k rs : Nat) (tv : Int32) (i : Int32) (A : Nat → Prop) : Array Value → State → Outcome → State → Prop := va_Qv (fun (u : Unit) => True) (fun u t => va_P (dC, dI) vwCl [(mo, .inr (3, [.int (nI 1), .int (nI (2 ^ k)), .ref ma, .ref mb, .int (nI rs), .ref lo, .ref hi, .ref kp, .ref ot, .ref su]))] t.heap ∧ va_D A [(mo, .inr (3, [.int (nI 1), .int (nI (2 ^ k)), .ref ma, .ref mb, .int (nI rs), .ref lo, .ref hi, .ref kp, .ref ot, .ref su]))]) A
set_option maxHeartbeats 4000000 in
set_option maxRecDepth 100000 in
theorem c_X4_size_bad (l : Launch) (dC : Nat → ClassId) (dI : Nat → Nat → Nat) (mo ma mb lo hi kp ot su k rs : Nat) (tv : Int32) (i : Int32) (sz : Nat) (hbad : i < nI 1 ∨ nI 8 < i) : Met l yX4_size wsX4_size ({ frames := 0, cells := 0, slots := 0, locals := 0 }) (va_Pc [.ref mo, .int i] (fun U => U.heap.size = sz ∧ va_P (dC, dI) vwCl [(mo, .inr (3, [.int tv, .int (nI (2 ^ k)), .ref ma, .ref mb, .int (nI rs), .ref lo, .ref hi, .ref kp, .ref ot, .ref su]))] U.heap ∧ va_K (dC, dI) vwCl [] U ∧ va_D (fun _ => True) [(mo, .inr (3, [.int tv, .int (nI (2 ^ k)), .ref ma, .ref mb, .int (nI rs), .ref lo, .ref hi, .ref kp, .ref ot, .ref su]))])) (q_X4_size_bad dC dI mo ma mb lo hi kp ot su k rs tv i (va_A [(mo, .inr (3, [.int tv, .int (nI (2 ^ k)), .ref ma, .ref mb, .int (nI rs), .ref lo, .ref hi, .ref kp, .ref ot, .ref su]))] sz)) 0 0 (va_A [(mo, .inr (3, [.int tv, .int (nI (2 ^ k)), .ref ma, .ref mb, .int (nI rs), .ref lo, .ref hi, .ref kp, .ref ot, .ref su]))] sz) := by
  refine Met.ofW (cc := cX4_size) (maxL := 3) (ret := none) (by decide) rfl ?_
  intro p e s m args below meth c s₁ B hml hv
  obtain ⟨rfl, hsz, hP, hK, hD0⟩ := hv
  have hx := B.exec
  have hb := B.bytes
  have hr := B.returns
  have hts := atoms_spec (ws := wsX4_size) B.pre
  have hown : s.vm.findClass RX4 = some m.cls := findClass_of_methodNamed B.named
  have hlocks := B.notSynchronized
  subst hsz
  have hD := hD0.self (sz := s.heap.size)
  generalize hAe : va_A [(mo, .inr (3, [.int tv, .int (nI (2 ^ k)), .ref ma, .ref mb, .int (nI rs), .ref lo, .ref hi, .ref kp, .ref ot, .ref su]))] s.heap.size = A at hD ⊢
  have hA : ∀ q : Nat, s.heap.size ≤ q → A q := fun q h => by rw [← hAe]; exact Or.inr h
  have hS : va_S A s.heap s.heap [] := va_S.rf
  have hP : va_P (dC, dI) vwCl [(mo, .inr (3, [.int tv, .int (nI (2 ^ k)), .ref ma, .ref mb, .int (nI rs), .ref lo, .ref hi, .ref kp, .ref ot, .ref su]))] s.heap := hP
  have hl := lv_entry (([.ref mo, .int i] : List Value)) (n := 3) (Nat.le_of_ble_eq_true rfl)
  rw [lg_entry_eq]
  generalize (lg_sl (([.ref mo, .int i] : List Value)) ++ List.replicate (3 - (lg_sl (([.ref mo, .int i] : List Value))).length) Slot.unset).toArray = ls at hl ⊢
  have hl : lv_has ls 3 [(0, .ref mo), (1, .int i)] := hl
  obtain ⟨H, hHe⟩ : ∃ H : Heap, H = s.heap := ⟨_, rfl⟩
  rw [← hHe] at hP
  have hS : va_S A s.heap H [] := by rw [hHe]; exact hS
  obtain ⟨locs, hlo⟩ : ∃ L : List Loc, L = [] := ⟨_, rfl⟩
  rw [← hlo] at hS ⊢
  rw [← hHe]
  refine lv_aload_n hx hb dX4_size_0 rfl (lv_at hl 0 rfl) ?_
  refine lv_iload_n hx hb dX4_size_1 rfl (lv_at hl 1 rfl) ?_
  refine lv_iconst (v := nI 1) hx hb dX4_size_2 (by decide) ?_
  refine lv_icmp_lt (tgt := 12) hx hb dX4_size_3 (by decide) (fun c_1 => ?_) (fun c_1 => ?_)
  · refine lv_iconst (v := nI 1) hx hb dX4_size_12 (by decide) ?_
    refine lv_goto (tgt := 17) hx hb dX4_size_13 (by decide) ?_
    refine va_put (D := (dC, dI)) (ci := 3) (v := .int (nI 1)) (ty := .int) (C := RX4) (T := TX4) (N := 10) hx hb hts (by decide +kernel) tyX4 tyX4_ok nmX4 hown hK hP hD hS 0 rfl rfl 0 (by decide) (hts (.fieldLink RX4 36 "ThreePrimesModel" "thrown" "I") (by decide +kernel)) (fun _ h9 => h9) rfl (by decide +kernel) rfl rfl (Nat.le_of_ble_eq_true rfl) dX4_size_17 (fun H locs hP hD hS => ?_)
    have hP : va_P (dC, dI) vwCl [(mo, .inr (3, [.int (nI 1), .int (nI (2 ^ k)), .ref ma, .ref mb, .int (nI rs), .ref lo, .ref hi, .ref kp, .ref ot, .ref su]))] H := hP
    have hD : va_D A [(mo, .inr (3, [.int (nI 1), .int (nI (2 ^ k)), .ref ma, .ref mb, .int (nI rs), .ref lo, .ref hi, .ref kp, .ref ot, .ref su]))] := hD
    refine lv_aload_n hx hb dX4_size_20 rfl (lv_at hl 0 rfl) ?_
    refine va_get (D := (dC, dI)) (ci := 3) (v := .int (nI 1)) (C := RX4) (T := TX4) (N := 10) hx hb hts (by decide +kernel) hown hK hP 0 rfl rfl 0 (by decide) (hts (.fieldLink RX4 36 "ThreePrimesModel" "thrown" "I") (by decide +kernel)) (fun _ h9 => h9) rfl dX4_size_21 ?_
    refine lv_if_le (tgt := 28) hx hb dX4_size_24 (by decide) (fun c_2 => ?_) (fun c_2 => ?_)
    · have c_2 : 1 ≤ 0 := (nI_leI (a := 1) (b := 0) (by omega) (by omega)).mp c_2
      omega
    · have c_2 : ¬ (1 ≤ 0) := fun zq9 => c_2 ((nI_leI (a := 1) (b := 0) (by omega) (by omega)).mpr zq9)
      have hP9 : va_P (dC, dI) vwCl [(mo, .inr (3, [.int (nI 1), .int (nI (2 ^ k)), .ref ma, .ref mb, .int (nI rs), .ref lo, .ref hi, .ref kp, .ref ot, .ref su]))] H := hP.sub [0] rfl
      have hD9 : va_D A [(mo, .inr (3, [.int (nI 1), .int (nI (2 ^ k)), .ref ma, .ref mb, .int (nI rs), .ref lo, .ref hi, .ref kp, .ref ot, .ref su]))] := hD.sub [0] (by decide) rfl
      exact W.vret hx hb hr (fun tq9 ht hW => ⟨⟨(), rfl, trivial, by rw [ht]; exact hP9, hD9⟩, hS.F ht⟩) hS.2.2 dX4_size_27
  · refine lv_iload_n hx hb dX4_size_6 rfl (lv_at hl 1 rfl) ?_
    refine lv_bipush (v := nI 8) hx hb dX4_size_7 (by decide) ?_
    refine lv_icmp_le (tgt := 16) hx hb dX4_size_9 (by decide) (fun c_3 => ?_) (fun c_3 => ?_)
    · exact absurd c_3 (Int32.not_le.mpr (hbad.resolve_left c_1))
    · refine lv_iconst (v := nI 1) hx hb dX4_size_12 (by decide) ?_
      refine lv_goto (tgt := 17) hx hb dX4_size_13 (by decide) ?_
      refine va_put (D := (dC, dI)) (ci := 3) (v := .int (nI 1)) (ty := .int) (C := RX4) (T := TX4) (N := 10) hx hb hts (by decide +kernel) tyX4 tyX4_ok nmX4 hown hK hP hD hS 0 rfl rfl 0 (by decide) (hts (.fieldLink RX4 36 "ThreePrimesModel" "thrown" "I") (by decide +kernel)) (fun _ h9 => h9) rfl (by decide +kernel) rfl rfl (Nat.le_of_ble_eq_true rfl) dX4_size_17 (fun H locs hP hD hS => ?_)
      have hP : va_P (dC, dI) vwCl [(mo, .inr (3, [.int (nI 1), .int (nI (2 ^ k)), .ref ma, .ref mb, .int (nI rs), .ref lo, .ref hi, .ref kp, .ref ot, .ref su]))] H := hP
      have hD : va_D A [(mo, .inr (3, [.int (nI 1), .int (nI (2 ^ k)), .ref ma, .ref mb, .int (nI rs), .ref lo, .ref hi, .ref kp, .ref ot, .ref su]))] := hD
      refine lv_aload_n hx hb dX4_size_20 rfl (lv_at hl 0 rfl) ?_
      refine va_get (D := (dC, dI)) (ci := 3) (v := .int (nI 1)) (C := RX4) (T := TX4) (N := 10) hx hb hts (by decide +kernel) hown hK hP 0 rfl rfl 0 (by decide) (hts (.fieldLink RX4 36 "ThreePrimesModel" "thrown" "I") (by decide +kernel)) (fun _ h9 => h9) rfl dX4_size_21 ?_
      refine lv_if_le (tgt := 28) hx hb dX4_size_24 (by decide) (fun c_4 => ?_) (fun c_4 => ?_)
      · have c_4 : 1 ≤ 0 := (nI_leI (a := 1) (b := 0) (by omega) (by omega)).mp c_4
        omega
      · have c_4 : ¬ (1 ≤ 0) := fun zq9 => c_4 ((nI_leI (a := 1) (b := 0) (by omega) (by omega)).mpr zq9)
        have hP9 : va_P (dC, dI) vwCl [(mo, .inr (3, [.int (nI 1), .int (nI (2 ^ k)), .ref ma, .ref mb, .int (nI rs), .ref lo, .ref hi, .ref kp, .ref ot, .ref su]))] H := hP.sub [0] rfl
        have hD9 : va_D A [(mo, .inr (3, [.int (nI 1), .int (nI (2 ^ k)), .ref ma, .ref mb, .int (nI rs), .ref lo, .ref hi, .ref kp, .ref ot, .ref su]))] := hD.sub [0] (by decide) rfl
        exact W.vret hx hb hr (fun tq9 ht hW => ⟨⟨(), rfl, trivial, by rw [ht]; exact hP9, hD9⟩, hS.F ht⟩) hS.2.2 dX4_size_27

abbrev q_X4_swap_ok (dC : Nat → ClassId) (dI : Nat → Nat → Nat) (mo ma mb lo hi kp ot su k rs : Nat) (tv : Int32) (cI : ClassId) (fa fb : Nat → Int32) (A : Nat → Prop) : Array Value → State → Outcome → State → Prop := va_Qv (fun (u : Unit) => True) (fun u t => va_P (dC, dI) vwCl [(mo, .inr (3, [.int (nI 0), .int (nI (2 ^ k)), .ref ma, .ref mb, .int (nI rs), .ref lo, .ref hi, .ref kp, .ref ot, .ref su])), (ma, .inl (cI, 256, .inl (mix fb fa (2 ^ k)))), (mb, .inl (cI, 256, .inl (mix fa fb (2 ^ k))))] t.heap ∧ va_D A [(mo, .inr (3, [.int (nI 0), .int (nI (2 ^ k)), .ref ma, .ref mb, .int (nI rs), .ref lo, .ref hi, .ref kp, .ref ot, .ref su])), (ma, .inl (cI, 256, .inl (mix fb fa (2 ^ k)))), (mb, .inl (cI, 256, .inl (mix fa fb (2 ^ k))))]) A
set_option maxHeartbeats 4000000 in
set_option maxRecDepth 100000 in
theorem c_X4_swap_ok (l : Launch) (dC : Nat → ClassId) (dI : Nat → Nat → Nat) (mo ma mb lo hi kp ot su k rs : Nat) (tv : Int32) (cI : ClassId) (fa fb : Nat → Int32) (sz : Nat) (zk1 : 1 ≤ k) (zk : k ≤ 8) : Met l yX4_swap wsX4_swap ({ frames := 0, cells := 0, slots := 0, locals := 0 }) (va_Pc [.ref mo] (fun U => U.heap.size = sz ∧ va_P (dC, dI) vwCl [(mo, .inr (3, [.int tv, .int (nI (2 ^ k)), .ref ma, .ref mb, .int (nI rs), .ref lo, .ref hi, .ref kp, .ref ot, .ref su])), (ma, .inl (cI, 256, .inl fa)), (mb, .inl (cI, 256, .inl fb))] U.heap ∧ va_K (dC, dI) vwCl [(cI, .int)] U ∧ va_D (fun _ => True) [(mo, .inr (3, [.int tv, .int (nI (2 ^ k)), .ref ma, .ref mb, .int (nI rs), .ref lo, .ref hi, .ref kp, .ref ot, .ref su])), (ma, .inl (cI, 256, .inl fa)), (mb, .inl (cI, 256, .inl fb))])) (q_X4_swap_ok dC dI mo ma mb lo hi kp ot su k rs tv cI fa fb (va_A [(mo, .inr (3, [.int tv, .int (nI (2 ^ k)), .ref ma, .ref mb, .int (nI rs), .ref lo, .ref hi, .ref kp, .ref ot, .ref su])), (ma, .inl (cI, 256, .inl fa)), (mb, .inl (cI, 256, .inl fb))] sz)) 0 0 (va_A [(mo, .inr (3, [.int tv, .int (nI (2 ^ k)), .ref ma, .ref mb, .int (nI rs), .ref lo, .ref hi, .ref kp, .ref ot, .ref su])), (ma, .inl (cI, 256, .inl fa)), (mb, .inl (cI, 256, .inl fb))] sz) := by
  refine Met.ofW (cc := cX4_swap) (maxL := 3) (ret := none) (by decide) rfl ?_
  intro p e s m args below meth c s₁ B hml hv
  obtain ⟨rfl, hsz, hP, hK, hD0⟩ := hv
  have hx := B.exec
  have hb := B.bytes
  have hr := B.returns
  have hts := atoms_spec (ws := wsX4_swap) B.pre
  have hown : s.vm.findClass RX4 = some m.cls := findClass_of_methodNamed B.named
  have hlocks := B.notSynchronized
  subst hsz
  have hD := hD0.self (sz := s.heap.size)
  generalize hAe : va_A [(mo, .inr (3, [.int tv, .int (nI (2 ^ k)), .ref ma, .ref mb, .int (nI rs), .ref lo, .ref hi, .ref kp, .ref ot, .ref su])), (ma, .inl (cI, 256, .inl fa)), (mb, .inl (cI, 256, .inl fb))] s.heap.size = A at hD ⊢
  have hA : ∀ q : Nat, s.heap.size ≤ q → A q := fun q h => by rw [← hAe]; exact Or.inr h
  have hS : va_S A s.heap s.heap [] := va_S.rf
  have hP : va_P (dC, dI) vwCl [(mo, .inr (3, [.int tv, .int (nI (2 ^ k)), .ref ma, .ref mb, .int (nI rs), .ref lo, .ref hi, .ref kp, .ref ot, .ref su])), (ma, .inl (cI, 256, .inl fa)), (mb, .inl (cI, 256, .inl fb))] s.heap := hP
  have hl := lv_entry (([.ref mo] : List Value)) (n := 3) (Nat.le_of_ble_eq_true rfl)
  rw [lg_entry_eq]
  generalize (lg_sl (([.ref mo] : List Value)) ++ List.replicate (3 - (lg_sl (([.ref mo] : List Value))).length) Slot.unset).toArray = ls at hl ⊢
  have hl : lv_has ls 3 [(0, .ref mo)] := hl
  obtain ⟨H, hHe⟩ : ∃ H : Heap, H = s.heap := ⟨_, rfl⟩
  rw [← hHe] at hP
  have hS : va_S A s.heap H [] := by rw [hHe]; exact hS
  obtain ⟨locs, hlo⟩ : ∃ L : List Loc, L = [] := ⟨_, rfl⟩
  rw [← hlo] at hS ⊢
  rw [← hHe]
  have hpk := pw8 zk
  refine lv_aload_n hx hb dX4_swap_0 rfl (lv_at hl 0 rfl) ?_
  refine lv_iconst (v := nI 0) hx hb dX4_swap_1 (by decide) ?_
  refine va_put (D := (dC, dI)) (ci := 3) (v := .int (nI 0)) (ty := .int) (C := RX4) (T := TX4) (N := 10) hx hb hts (by decide +kernel) tyX4 tyX4_ok nmX4 hown hK hP hD hS 0 rfl rfl 0 (by decide) (hts (.fieldLink RX4 36 "ThreePrimesModel" "thrown" "I") (by decide +kernel)) (fun _ h9 => h9) rfl (by decide +kernel) rfl rfl (Nat.le_of_ble_eq_true rfl) dX4_swap_2 (fun H locs hP hD hS => ?_)
  have hP : va_P (dC, dI) vwCl [(mo, .inr (3, [.int (nI 0), .int (nI (2 ^ k)), .ref ma, .ref mb, .int (nI rs), .ref lo, .ref hi, .ref kp, .ref ot, .ref su])), (ma, .inl (cI, 256, .inl fa)), (mb, .inl (cI, 256, .inl fb))] H := hP
  have hD : va_D A [(mo, .inr (3, [.int (nI 0), .int (nI (2 ^ k)), .ref ma, .ref mb, .int (nI rs), .ref lo, .ref hi, .ref kp, .ref ot, .ref su])), (ma, .inl (cI, 256, .inl fa)), (mb, .inl (cI, 256, .inl fb))] := hD
  refine lv_iconst (v := nI 0) hx hb dX4_swap_5 (by decide) ?_
  rw [show fa = mix fb fa 0 from (mix_0 _ _).symm] at hP hD
  have hP : va_P (dC, dI) vwCl [(mo, .inr (3, [.int (nI 0), .int (nI (2 ^ k)), .ref ma, .ref mb, .int (nI rs), .ref lo, .ref hi, .ref kp, .ref ot, .ref su])), (ma, .inl (cI, 256, .inl (mix fb fa 0))), (mb, .inl (cI, 256, .inl fb))] H := hP
  have hD : va_D A [(mo, .inr (3, [.int (nI 0), .int (nI (2 ^ k)), .ref ma, .ref mb, .int (nI rs), .ref lo, .ref hi, .ref kp, .ref ot, .ref su])), (ma, .inl (cI, 256, .inl (mix fb fa 0))), (mb, .inl (cI, 256, .inl fb))] := hD
  rw [show fb = mix fa fb 0 from (mix_0 _ _).symm] at hP hD
  have hP : va_P (dC, dI) vwCl [(mo, .inr (3, [.int (nI 0), .int (nI (2 ^ k)), .ref ma, .ref mb, .int (nI rs), .ref lo, .ref hi, .ref kp, .ref ot, .ref su])), (ma, .inl (cI, 256, .inl (mix fb fa 0))), (mb, .inl (cI, 256, .inl (mix fa fb 0)))] H := hP
  have hD : va_D A [(mo, .inr (3, [.int (nI 0), .int (nI (2 ^ k)), .ref ma, .ref mb, .int (nI rs), .ref lo, .ref hi, .ref kp, .ref ot, .ref su])), (ma, .inl (cI, 256, .inl (mix fb fa 0))), (mb, .inl (cI, 256, .inl (mix fa fb 0)))] := hD
  refine lv_istore_n (lv' := [(1, .int (nI 0)), (0, .ref mo)]) hx hb dX4_swap_6 rfl hl (by decide) rfl (fun ls hl => ?_)
  have key_7 : ∀ (fuel : Nat) (t : Nat), (t ≤ 2 ^ k) → (2 ^ k - t < fuel) → ∀ (H : Heap) (locs : List Loc) (ls : Array Slot), va_P (dC, dI) vwCl [(mo, .inr (3, [.int (nI 0), .int (nI (2 ^ k)), .ref ma, .ref mb, .int (nI rs), .ref lo, .ref hi, .ref kp, .ref ot, .ref su])), (ma, .inl (cI, 256, .inl (mix fb fa t))), (mb, .inl (cI, 256, .inl (mix fa fb t)))] H → va_D A [(mo, .inr (3, [.int (nI 0), .int (nI (2 ^ k)), .ref ma, .ref mb, .int (nI rs), .ref lo, .ref hi, .ref kp, .ref ot, .ref su])), (ma, .inl (cI, 256, .inl (mix fb fa t))), (mb, .inl (cI, 256, .inl (mix fa fb t)))] → va_S A s.heap H locs → lv_has ls 3 [(1, .int (nI t)), (0, .ref mo)] → W p l e (headSpec wsX4_swap { frames := 0, cells := 0, slots := 0, locals := 0 }).room s m ([.ref mo] : List Value).toArray below meth c H locs 0 0 (MQ below (q_X4_swap_ok dC dI mo ma mb lo hi kp ot su k rs tv cI fa fb  A) ([.ref mo] : List Value).toArray s 0 0 A) (F0 m 7 ls []) := by
    intro fuel
    induction fuel with
    | zero => intro t; intros; omega
    | succ fuel ih_7 =>
      intro t ht hfu H locs ls hP hD hS hl
      refine lv_iload_n hx hb dX4_swap_7 rfl (lv_at hl 0 rfl) ?_
      refine lv_aload_n hx hb dX4_swap_8 rfl (lv_at hl 1 rfl) ?_
      refine va_get (D := (dC, dI)) (ci := 3) (v := .int (nI (2 ^ k))) (C := RX4) (T := TX4) (N := 10) hx hb hts (by decide +kernel) hown hK hP 0 rfl rfl 1 (by decide) (hts (.fieldLink RX4 7 "ThreePrimesModel" "n" "I") (by decide +kernel)) (fun _ h9 => h9) rfl dX4_swap_9 ?_
      refine lv_icmp_ge (tgt := 47) hx hb dX4_swap_12 (by decide) (fun c_1 => ?_) (fun c_1 => ?_)
      · have c_1 : 2 ^ k ≤ t := (nI_leI (a := 2 ^ k) (b := t) (by omega) (by omega)).mp c_1
        rw [show mix fb fa t = mix fb fa (2 ^ k) from by rw [show t = 2 ^ k by omega]] at hP hD
        have hP : va_P (dC, dI) vwCl [(mo, .inr (3, [.int (nI 0), .int (nI (2 ^ k)), .ref ma, .ref mb, .int (nI rs), .ref lo, .ref hi, .ref kp, .ref ot, .ref su])), (ma, .inl (cI, 256, .inl (mix fb fa (2 ^ k)))), (mb, .inl (cI, 256, .inl (mix fa fb t)))] H := hP
        have hD : va_D A [(mo, .inr (3, [.int (nI 0), .int (nI (2 ^ k)), .ref ma, .ref mb, .int (nI rs), .ref lo, .ref hi, .ref kp, .ref ot, .ref su])), (ma, .inl (cI, 256, .inl (mix fb fa (2 ^ k)))), (mb, .inl (cI, 256, .inl (mix fa fb t)))] := hD
        rw [show mix fa fb t = mix fa fb (2 ^ k) from by rw [show t = 2 ^ k by omega]] at hP hD
        have hP : va_P (dC, dI) vwCl [(mo, .inr (3, [.int (nI 0), .int (nI (2 ^ k)), .ref ma, .ref mb, .int (nI rs), .ref lo, .ref hi, .ref kp, .ref ot, .ref su])), (ma, .inl (cI, 256, .inl (mix fb fa (2 ^ k)))), (mb, .inl (cI, 256, .inl (mix fa fb (2 ^ k))))] H := hP
        have hD : va_D A [(mo, .inr (3, [.int (nI 0), .int (nI (2 ^ k)), .ref ma, .ref mb, .int (nI rs), .ref lo, .ref hi, .ref kp, .ref ot, .ref su])), (ma, .inl (cI, 256, .inl (mix fb fa (2 ^ k)))), (mb, .inl (cI, 256, .inl (mix fa fb (2 ^ k))))] := hD
        have hP9 : va_P (dC, dI) vwCl [(mo, .inr (3, [.int (nI 0), .int (nI (2 ^ k)), .ref ma, .ref mb, .int (nI rs), .ref lo, .ref hi, .ref kp, .ref ot, .ref su])), (ma, .inl (cI, 256, .inl (mix fb fa (2 ^ k)))), (mb, .inl (cI, 256, .inl (mix fa fb (2 ^ k))))] H := hP.sub [0, 1, 2] rfl
        have hD9 : va_D A [(mo, .inr (3, [.int (nI 0), .int (nI (2 ^ k)), .ref ma, .ref mb, .int (nI rs), .ref lo, .ref hi, .ref kp, .ref ot, .ref su])), (ma, .inl (cI, 256, .inl (mix fb fa (2 ^ k)))), (mb, .inl (cI, 256, .inl (mix fa fb (2 ^ k))))] := hD.sub [0, 1, 2] (by decide) rfl
        exact W.vret hx hb hr (fun tq9 ht hW => ⟨⟨(), rfl, trivial, by rw [ht]; exact hP9, hD9⟩, hS.F ht⟩) hS.2.2 dX4_swap_47
      · have c_1 : ¬ (2 ^ k ≤ t) := fun zq9 => c_1 ((nI_leI (a := 2 ^ k) (b := t) (by omega) (by omega)).mpr zq9)
        refine lv_aload_n hx hb dX4_swap_15 rfl (lv_at hl 1 rfl) ?_
        refine va_get (D := (dC, dI)) (ci := 3) (v := .ref ma) (C := RX4) (T := TX4) (N := 10) hx hb hts (by decide +kernel) hown hK hP 0 rfl rfl 2 (by decide) (hts (.fieldLink RX4 13 "ThreePrimesModel" "a" "[I") (by decide +kernel)) (fun _ h9 => h9) rfl dX4_swap_16 ?_
        refine lv_iload_n hx hb dX4_swap_19 rfl (lv_at hl 0 rfl) ?_
        refine va_iald hx hb hK hP 1 0 rfl rfl (vp_in_nI (by omega) (by omega)) dX4_swap_20 ?_
        refine W.eq (g2 := F0 m _ ls [.int ((mix fb fa t) t)]) (by rw [nI_clamp (by omega)]) ?_
        refine W.eq (congrArg (fun z => F0 m _ ls (.int z :: _)) (show (mix fb fa t) t = fa t from mix_i)) ?_
        refine lv_istore_n (lv' := [(2, .int (fa t)), (1, .int (nI t)), (0, .ref mo)]) hx hb dX4_swap_21 rfl hl (by decide) rfl (fun ls hl => ?_)
        refine lv_aload_n hx hb dX4_swap_22 rfl (lv_at hl 2 rfl) ?_
        refine va_get (D := (dC, dI)) (ci := 3) (v := .ref ma) (C := RX4) (T := TX4) (N := 10) hx hb hts (by decide +kernel) hown hK hP 0 rfl rfl 2 (by decide) (hts (.fieldLink RX4 13 "ThreePrimesModel" "a" "[I") (by decide +kernel)) (fun _ h9 => h9) rfl dX4_swap_23 ?_
        refine lv_iload_n hx hb dX4_swap_26 rfl (lv_at hl 1 rfl) ?_
        refine lv_aload_n hx hb dX4_swap_27 rfl (lv_at hl 2 rfl) ?_
        refine va_get (D := (dC, dI)) (ci := 3) (v := .ref mb) (C := RX4) (T := TX4) (N := 10) hx hb hts (by decide +kernel) hown hK hP 0 rfl rfl 3 (by decide) (hts (.fieldLink RX4 17 "ThreePrimesModel" "b" "[I") (by decide +kernel)) (fun _ h9 => h9) rfl dX4_swap_28 ?_
        refine lv_iload_n hx hb dX4_swap_31 rfl (lv_at hl 1 rfl) ?_
        refine va_iald hx hb hK hP 2 0 rfl rfl (vp_in_nI (by omega) (by omega)) dX4_swap_32 ?_
        refine W.eq (g2 := F0 m _ ls [.int ((mix fa fb t) t), .int (nI t), .ref ma]) (by rw [nI_clamp (by omega)]) ?_
        refine W.eq (congrArg (fun z => F0 m _ ls (.int z :: _)) (show (mix fa fb t) t = fb t from mix_i)) ?_
        refine va_iast hx hb hK hP hD hS 1 0 rfl rfl (vp_in_nI (by omega) (by omega)) dX4_swap_33 (fun H locs hP hD hS => ?_)
        rw [nI_clamp (show t < 2 ^ 31 by omega)] at hP hD
        have hP : va_P (dC, dI) vwCl [(mo, .inr (3, [.int (nI 0), .int (nI (2 ^ k)), .ref ma, .ref mb, .int (nI rs), .ref lo, .ref hi, .ref kp, .ref ot, .ref su])), (ma, .inl (cI, 256, .inl (upd (mix fb fa t) t (fb t)))), (mb, .inl (cI, 256, .inl (mix fa fb t)))] H := hP
        have hD : va_D A [(mo, .inr (3, [.int (nI 0), .int (nI (2 ^ k)), .ref ma, .ref mb, .int (nI rs), .ref lo, .ref hi, .ref kp, .ref ot, .ref su])), (ma, .inl (cI, 256, .inl (upd (mix fb fa t) t (fb t)))), (mb, .inl (cI, 256, .inl (mix fa fb t)))] := hD
        rw [show upd (mix fb fa t) t (fb t) = mix fb fa (t + 1) from mix_s] at hP hD
        have hP : va_P (dC, dI) vwCl [(mo, .inr (3, [.int (nI 0), .int (nI (2 ^ k)), .ref ma, .ref mb, .int (nI rs), .ref lo, .ref hi, .ref kp, .ref ot, .ref su])), (ma, .inl (cI, 256, .inl (mix fb fa (t + 1)))), (mb, .inl (cI, 256, .inl (mix fa fb t)))] H := hP
        have hD : va_D A [(mo, .inr (3, [.int (nI 0), .int (nI (2 ^ k)), .ref ma, .ref mb, .int (nI rs), .ref lo, .ref hi, .ref kp, .ref ot, .ref su])), (ma, .inl (cI, 256, .inl (mix fb fa (t + 1)))), (mb, .inl (cI, 256, .inl (mix fa fb t)))] := hD
        refine lv_aload_n hx hb dX4_swap_34 rfl (lv_at hl 2 rfl) ?_
        refine va_get (D := (dC, dI)) (ci := 3) (v := .ref mb) (C := RX4) (T := TX4) (N := 10) hx hb hts (by decide +kernel) hown hK hP 0 rfl rfl 3 (by decide) (hts (.fieldLink RX4 17 "ThreePrimesModel" "b" "[I") (by decide +kernel)) (fun _ h9 => h9) rfl dX4_swap_35 ?_
        refine lv_iload_n hx hb dX4_swap_38 rfl (lv_at hl 1 rfl) ?_
        refine lv_iload_n hx hb dX4_swap_39 rfl (lv_at hl 0 rfl) ?_
        refine va_iast hx hb hK hP hD hS 2 0 rfl rfl (vp_in_nI (by omega) (by omega)) dX4_swap_40 (fun H locs hP hD hS => ?_)
        rw [nI_clamp (show t < 2 ^ 31 by omega)] at hP hD
        have hP : va_P (dC, dI) vwCl [(mo, .inr (3, [.int (nI 0), .int (nI (2 ^ k)), .ref ma, .ref mb, .int (nI rs), .ref lo, .ref hi, .ref kp, .ref ot, .ref su])), (ma, .inl (cI, 256, .inl (mix fb fa (t + 1)))), (mb, .inl (cI, 256, .inl (upd (mix fa fb t) t (fa t))))] H := hP
        have hD : va_D A [(mo, .inr (3, [.int (nI 0), .int (nI (2 ^ k)), .ref ma, .ref mb, .int (nI rs), .ref lo, .ref hi, .ref kp, .ref ot, .ref su])), (ma, .inl (cI, 256, .inl (mix fb fa (t + 1)))), (mb, .inl (cI, 256, .inl (upd (mix fa fb t) t (fa t))))] := hD
        rw [show upd (mix fa fb t) t (fa t) = mix fa fb (t + 1) from mix_s] at hP hD
        have hP : va_P (dC, dI) vwCl [(mo, .inr (3, [.int (nI 0), .int (nI (2 ^ k)), .ref ma, .ref mb, .int (nI rs), .ref lo, .ref hi, .ref kp, .ref ot, .ref su])), (ma, .inl (cI, 256, .inl (mix fb fa (t + 1)))), (mb, .inl (cI, 256, .inl (mix fa fb (t + 1))))] H := hP
        have hD : va_D A [(mo, .inr (3, [.int (nI 0), .int (nI (2 ^ k)), .ref ma, .ref mb, .int (nI rs), .ref lo, .ref hi, .ref kp, .ref ot, .ref su])), (ma, .inl (cI, 256, .inl (mix fb fa (t + 1)))), (mb, .inl (cI, 256, .inl (mix fa fb (t + 1))))] := hD
        refine lv_iinc (v := nI (t + 1)) (lv' := [(1, .int (nI (t + 1))), (2, .int (fa t)), (0, .ref mo)]) hx hb dX4_swap_41 hl (k := 1) rfl (nI_add t 1) (by decide) rfl (fun ls hl => ?_)
        refine lv_goto (tgt := 7) hx hb dX4_swap_44 (by decide) ?_
        exact ih_7  (t + 1) (by omega) (by omega) _ _ _ (hP.sub [0, 1, 2] rfl) (hD.sub [0, 1, 2] (by decide) rfl) hS (lv_sub hl [0, 2] rfl)
  exact key_7 (2 ^ k + 1) 0 (by omega) (by omega) _ _ _ (hP.sub [0, 1, 2] rfl) (hD.sub [0, 1, 2] (by decide) rfl) hS (lv_sub hl [0, 1] rfl)

abbrev q_X4_low_ok (dC : Nat → ClassId) (dI : Nat → Nat → Nat) (mo ma mb lo hi kp ot su k rs : Nat) (tv : Int32) (cJ : ClassId) (LW : Nat → Int) (j : Nat) (A : Nat → Prop) : Array Value → State → Outcome → State → Prop := va_Ql (fun (r : Int64) (u : Unit) => r = lI (LW j)) (fun u t => va_P (dC, dI) vwCl [(mo, .inr (3, [.int (nI 0), .int (nI (2 ^ k)), .ref ma, .ref mb, .int (nI rs), .ref lo, .ref hi, .ref kp, .ref ot, .ref su])), (lo, .inl (cJ, 511, .inr (.inl (fun j => lI (LW j)))))] t.heap ∧ va_D A [(mo, .inr (3, [.int (nI 0), .int (nI (2 ^ k)), .ref ma, .ref mb, .int (nI rs), .ref lo, .ref hi, .ref kp, .ref ot, .ref su])), (lo, .inl (cJ, 511, .inr (.inl (fun j => lI (LW j)))))]) A
set_option maxHeartbeats 4000000 in
set_option maxRecDepth 100000 in
theorem c_X4_low_ok (l : Launch) (dC : Nat → ClassId) (dI : Nat → Nat → Nat) (mo ma mb lo hi kp ot su k rs : Nat) (tv : Int32) (cJ : ClassId) (LW : Nat → Int) (j : Nat) (sz : Nat) (zj : j < rs) (zrs : rs ≤ 511) : Met l yX4_low wsX4_low ({ frames := 1, cells := 0, slots := 0, locals := 21 }) (va_Pc [.ref mo, .int (nI j)] (fun U => U.heap.size = sz ∧ va_P (dC, dI) vwCl [(mo, .inr (3, [.int tv, .int (nI (2 ^ k)), .ref ma, .ref mb, .int (nI rs), .ref lo, .ref hi, .ref kp, .ref ot, .ref su])), (lo, .inl (cJ, 511, .inr (.inl (fun j => lI (LW j)))))] U.heap ∧ va_K (dC, dI) vwCl [(cJ, .long)] U ∧ va_D (fun _ => True) [(mo, .inr (3, [.int tv, .int (nI (2 ^ k)), .ref ma, .ref mb, .int (nI rs), .ref lo, .ref hi, .ref kp, .ref ot, .ref su])), (lo, .inl (cJ, 511, .inr (.inl (fun j => lI (LW j)))))])) (q_X4_low_ok dC dI mo ma mb lo hi kp ot su k rs tv cJ LW j (va_A [(mo, .inr (3, [.int tv, .int (nI (2 ^ k)), .ref ma, .ref mb, .int (nI rs), .ref lo, .ref hi, .ref kp, .ref ot, .ref su])), (lo, .inl (cJ, 511, .inr (.inl (fun j => lI (LW j)))))] sz)) 0 0 (va_A [(mo, .inr (3, [.int tv, .int (nI (2 ^ k)), .ref ma, .ref mb, .int (nI rs), .ref lo, .ref hi, .ref kp, .ref ot, .ref su])), (lo, .inl (cJ, 511, .inr (.inl (fun j => lI (LW j)))))] sz) := by
  refine Met.ofW (cc := cX4_low) (maxL := 2) (ret := (some .long)) (by decide) rfl ?_
  intro p e s m args below meth c s₁ B hml hv
  obtain ⟨rfl, hsz, hP, hK, hD0⟩ := hv
  have hx := B.exec
  have hb := B.bytes
  have hr := B.returns
  have hts := atoms_spec (ws := wsX4_low) B.pre
  have hown : s.vm.findClass RX4 = some m.cls := findClass_of_methodNamed B.named
  have hlocks := B.notSynchronized
  subst hsz
  have hD := hD0.self (sz := s.heap.size)
  generalize hAe : va_A [(mo, .inr (3, [.int tv, .int (nI (2 ^ k)), .ref ma, .ref mb, .int (nI rs), .ref lo, .ref hi, .ref kp, .ref ot, .ref su])), (lo, .inl (cJ, 511, .inr (.inl (fun j => lI (LW j)))))] s.heap.size = A at hD ⊢
  have hA : ∀ q : Nat, s.heap.size ≤ q → A q := fun q h => by rw [← hAe]; exact Or.inr h
  have hS : va_S A s.heap s.heap [] := va_S.rf
  have hP : va_P (dC, dI) vwCl [(mo, .inr (3, [.int tv, .int (nI (2 ^ k)), .ref ma, .ref mb, .int (nI rs), .ref lo, .ref hi, .ref kp, .ref ot, .ref su])), (lo, .inl (cJ, 511, .inr (.inl (fun j => lI (LW j)))))] s.heap := hP
  have hl := lv_entry (([.ref mo, .int (nI j)] : List Value)) (n := 2) (Nat.le_of_ble_eq_true rfl)
  rw [lg_entry_eq]
  generalize (lg_sl (([.ref mo, .int (nI j)] : List Value)) ++ List.replicate (2 - (lg_sl (([.ref mo, .int (nI j)] : List Value))).length) Slot.unset).toArray = ls at hl ⊢
  have hl : lv_has ls 2 [(0, .ref mo), (1, .int (nI j))] := hl
  obtain ⟨H, hHe⟩ : ∃ H : Heap, H = s.heap := ⟨_, rfl⟩
  rw [← hHe] at hP
  have hS : va_S A s.heap H [] := by rw [hHe]; exact hS
  obtain ⟨locs, hlo⟩ : ∃ L : List Loc, L = [] := ⟨_, rfl⟩
  rw [← hlo] at hS ⊢
  rw [← hHe]
  refine lv_aload_n hx hb dX4_low_0 rfl (lv_at hl 0 rfl) ?_
  refine lv_aload_n hx hb dX4_low_1 rfl (lv_at hl 0 rfl) ?_
  refine lv_iload_n hx hb dX4_low_2 rfl (lv_at hl 1 rfl) ?_
  have hPc := hP.sub (ws' := [(mo, .inr (3, [.int tv, .int (nI (2 ^ k)), .ref ma, .ref mb, .int (nI rs), .ref lo, .ref hi, .ref kp, .ref ot, .ref su]))]) [0] rfl
  have hDc := hD.sub (ws' := [(mo, .inr (3, [.int tv, .int (nI (2 ^ k)), .ref ma, .ref mb, .int (nI rs), .ref lo, .ref hi, .ref kp, .ref ot, .ref su]))]) [0] (by decide) rfl
  have hKc := hK.sub (tys' := []) [] rfl
  have hFc := va_free (wc := [(mo, .inr (3, [.int tv, .int (nI (2 ^ k)), .ref ma, .ref mb, .int (nI rs), .ref lo, .ref hi, .ref kp, .ref ot, .ref su]))]) hD hS hA [0] rfl
  refine va_calli (va_runV (As := [.int (nI j)]) (rest := [.ref mo]) ⟨hx, hb, hml, hown, hts⟩ (c_X4_noResult_ok l dC dI mo ma mb lo hi kp ot su k rs tv j H.size (by omega) (by omega)) (cwV 1 hts gX4_low_X4_noResult rfl rfl rfl (by decide +kernel) ⟨Nat.le_of_ble_eq_true rfl, Nat.le_of_ble_eq_true rfl⟩) ⟨fun a U g mk q => by obtain ⟨q0, q1, qP, qK, qD⟩ := q; exact ⟨q0, q1, qP, va_K.moved (u := U) (U := U.calling g mk a) (Vm.Alike.refl U.vm) qK, qD⟩, va_recv hKc hPc (ci := 3) (q0 := 0) rfl rfl, fun U hU hW => ⟨rfl, by rw [hU], by rw [hU]; exact hPc, va_K.moved hW.alike hKc, hDc.weaken (fun _ _ _ _ => trivial)⟩⟩ rfl rfl hl.1 rfl (lv_room (Nat.le_of_ble_eq_true rfl)) dX4_low_3 ⟨Nat.le_of_ble_eq_true rfl, Nat.le_of_ble_eq_true rfl⟩) hS (fun q _ h => hFc q h) hFc (fun r9 u9 t9 H1 locs ht hvm hw hB hz1 hk1 hS => ?_)
  obtain ⟨hP1, hD1⟩ := hB
  rw [ht] at hP1
  try dsimp only at hw
  obtain ⟨hP, hD⟩ := va_join (wr := [(lo, .inl (cJ, 511, .inr (.inl (fun j => lI (LW j)))))]) (w1 := [(mo, .inr (3, [.int tv, .int (nI (2 ^ k)), .ref ma, .ref mb, .int (nI rs), .ref lo, .ref hi, .ref kp, .ref ot, .ref su]))]) hP hD [0] [1] rfl rfl (by decide) (by decide) hk1 hFc hP1 hD1
  generalize H1 = H at hP hS ⊢
  have hP : va_P (dC, dI) vwCl [(lo, .inl (cJ, 511, .inr (.inl (fun j => lI (LW j))))), (mo, .inr (3, [.int tv, .int (nI (2 ^ k)), .ref ma, .ref mb, .int (nI rs), .ref lo, .ref hi, .ref kp, .ref ot, .ref su]))] H := hP
  have hD : va_D A [(lo, .inl (cJ, 511, .inr (.inl (fun j => lI (LW j))))), (mo, .inr (3, [.int tv, .int (nI (2 ^ k)), .ref ma, .ref mb, .int (nI rs), .ref lo, .ref hi, .ref kp, .ref ot, .ref su]))] := hD
  clear hPc hDc hKc hFc hP1 hD1 hk1 hz1 hvm ht
  subst hw
  refine lv_if_eq (tgt := 13) hx hb dX4_low_6 (by decide) (fun c_1 => ?_) (fun c_1 => ?_)
  · have c_1 : 0 = 0 := (nI_eq (a := 0) (b := 0) (by omega) (by omega)).mp c_1
    refine lv_iconst (v := nI 0) hx hb dX4_low_13 (by decide) ?_
    refine va_put (D := (dC, dI)) (ci := 3) (v := .int (nI 0)) (ty := .int) (C := RX4) (T := TX4) (N := 10) hx hb hts (by decide +kernel) tyX4 tyX4_ok nmX4 hown hK hP hD hS 1 rfl rfl 0 (by decide) (hts (.fieldLink RX4 36 "ThreePrimesModel" "thrown" "I") (by decide +kernel)) (fun _ h9 => h9) rfl (by decide +kernel) rfl rfl (Nat.le_of_ble_eq_true rfl) dX4_low_14 (fun H locs hP hD hS => ?_)
    have hP : va_P (dC, dI) vwCl [(lo, .inl (cJ, 511, .inr (.inl (fun j => lI (LW j))))), (mo, .inr (3, [.int (nI 0), .int (nI (2 ^ k)), .ref ma, .ref mb, .int (nI rs), .ref lo, .ref hi, .ref kp, .ref ot, .ref su]))] H := hP
    have hD : va_D A [(lo, .inl (cJ, 511, .inr (.inl (fun j => lI (LW j))))), (mo, .inr (3, [.int (nI 0), .int (nI (2 ^ k)), .ref ma, .ref mb, .int (nI rs), .ref lo, .ref hi, .ref kp, .ref ot, .ref su]))] := hD
    refine lv_aload_n hx hb dX4_low_17 rfl (lv_at hl 0 rfl) ?_
    refine va_get (D := (dC, dI)) (ci := 3) (v := .int (nI 0)) (C := RX4) (T := TX4) (N := 10) hx hb hts (by decide +kernel) hown hK hP 1 rfl rfl 0 (by decide) (hts (.fieldLink RX4 36 "ThreePrimesModel" "thrown" "I") (by decide +kernel)) (fun _ h9 => h9) rfl dX4_low_18 ?_
    refine lv_if_le (tgt := 28) hx hb dX4_low_21 (by decide) (fun c_2 => ?_) (fun c_2 => ?_)
    · have c_2 : 0 ≤ 0 := (nI_leI (a := 0) (b := 0) (by omega) (by omega)).mp c_2
      refine lv_aload_n hx hb dX4_low_28 rfl (lv_at hl 0 rfl) ?_
      refine va_get (D := (dC, dI)) (ci := 3) (v := .ref lo) (C := RX4) (T := TX4) (N := 10) hx hb hts (by decide +kernel) hown hK hP 1 rfl rfl 5 (by decide) (hts (.fieldLink RX4 20 "ThreePrimesModel" "low" "[J") (by decide +kernel)) (fun _ h9 => h9) rfl dX4_low_29 ?_
      refine lv_iload_n hx hb dX4_low_32 rfl (lv_at hl 1 rfl) ?_
      refine va_lald hx hb hK hP 0 0 rfl rfl (vp_in_nI (by omega) (by omega)) dX4_low_33 ?_
      refine W.eq (g2 := F0 m _ ls [.long (lI (LW j))]) (by rw [nI_clamp (by omega)]) ?_
      have hP9 : va_P (dC, dI) vwCl [(mo, .inr (3, [.int (nI 0), .int (nI (2 ^ k)), .ref ma, .ref mb, .int (nI rs), .ref lo, .ref hi, .ref kp, .ref ot, .ref su])), (lo, .inl (cJ, 511, .inr (.inl (fun j => lI (LW j)))))] H := hP.sub [1, 0] rfl
      have hD9 : va_D A [(mo, .inr (3, [.int (nI 0), .int (nI (2 ^ k)), .ref ma, .ref mb, .int (nI rs), .ref lo, .ref hi, .ref kp, .ref ot, .ref su])), (lo, .inl (cJ, 511, .inr (.inl (fun j => lI (LW j)))))] := hD.sub [1, 0] (by decide) rfl
      exact W.lret (v := lI (LW j)) hx hb hr (fun tq9 ht hW => ⟨⟨lI (LW j), (), rfl, rfl, by rw [ht]; exact hP9, hD9⟩, hS.F ht⟩) hS.2.2 dX4_low_34
    · have c_2 : ¬ (0 ≤ 0) := fun zq9 => c_2 ((nI_leI (a := 0) (b := 0) (by omega) (by omega)).mpr zq9)
      omega
  · have c_1 : ¬ (0 = 0) := fun zq9 => c_1 ((nI_eq (a := 0) (b := 0) (by omega) (by omega)).mpr zq9)
    omega

abbrev q_X4_low_bad (dC : Nat → ClassId) (dI : Nat → Nat → Nat) (mo ma mb lo hi kp ot su k rs : Nat) (tv : Int32) (i : Int32) (A : Nat → Prop) : Array Value → State → Outcome → State → Prop := va_Ql (fun (r : Int64) (u : Unit) => True) (fun u t => va_P (dC, dI) vwCl [(mo, .inr (3, [.int (nI 1), .int (nI (2 ^ k)), .ref ma, .ref mb, .int (nI rs), .ref lo, .ref hi, .ref kp, .ref ot, .ref su]))] t.heap ∧ va_D A [(mo, .inr (3, [.int (nI 1), .int (nI (2 ^ k)), .ref ma, .ref mb, .int (nI rs), .ref lo, .ref hi, .ref kp, .ref ot, .ref su]))]) A
set_option maxHeartbeats 4000000 in
set_option maxRecDepth 100000 in
theorem c_X4_low_bad (l : Launch) (dC : Nat → ClassId) (dI : Nat → Nat → Nat) (mo ma mb lo hi kp ot su k rs : Nat) (tv : Int32) (i : Int32) (sz : Nat) (hbad : i < 0 ∨ nI rs ≤ i) : Met l yX4_low wsX4_low ({ frames := 1, cells := 0, slots := 0, locals := 21 }) (va_Pc [.ref mo, .int i] (fun U => U.heap.size = sz ∧ va_P (dC, dI) vwCl [(mo, .inr (3, [.int tv, .int (nI (2 ^ k)), .ref ma, .ref mb, .int (nI rs), .ref lo, .ref hi, .ref kp, .ref ot, .ref su]))] U.heap ∧ va_K (dC, dI) vwCl [] U ∧ va_D (fun _ => True) [(mo, .inr (3, [.int tv, .int (nI (2 ^ k)), .ref ma, .ref mb, .int (nI rs), .ref lo, .ref hi, .ref kp, .ref ot, .ref su]))])) (q_X4_low_bad dC dI mo ma mb lo hi kp ot su k rs tv i (va_A [(mo, .inr (3, [.int tv, .int (nI (2 ^ k)), .ref ma, .ref mb, .int (nI rs), .ref lo, .ref hi, .ref kp, .ref ot, .ref su]))] sz)) 0 0 (va_A [(mo, .inr (3, [.int tv, .int (nI (2 ^ k)), .ref ma, .ref mb, .int (nI rs), .ref lo, .ref hi, .ref kp, .ref ot, .ref su]))] sz) := by
  refine Met.ofW (cc := cX4_low) (maxL := 2) (ret := (some .long)) (by decide) rfl ?_
  intro p e s m args below meth c s₁ B hml hv
  obtain ⟨rfl, hsz, hP, hK, hD0⟩ := hv
  have hx := B.exec
  have hb := B.bytes
  have hr := B.returns
  have hts := atoms_spec (ws := wsX4_low) B.pre
  have hown : s.vm.findClass RX4 = some m.cls := findClass_of_methodNamed B.named
  have hlocks := B.notSynchronized
  subst hsz
  have hD := hD0.self (sz := s.heap.size)
  generalize hAe : va_A [(mo, .inr (3, [.int tv, .int (nI (2 ^ k)), .ref ma, .ref mb, .int (nI rs), .ref lo, .ref hi, .ref kp, .ref ot, .ref su]))] s.heap.size = A at hD ⊢
  have hA : ∀ q : Nat, s.heap.size ≤ q → A q := fun q h => by rw [← hAe]; exact Or.inr h
  have hS : va_S A s.heap s.heap [] := va_S.rf
  have hP : va_P (dC, dI) vwCl [(mo, .inr (3, [.int tv, .int (nI (2 ^ k)), .ref ma, .ref mb, .int (nI rs), .ref lo, .ref hi, .ref kp, .ref ot, .ref su]))] s.heap := hP
  have hl := lv_entry (([.ref mo, .int i] : List Value)) (n := 2) (Nat.le_of_ble_eq_true rfl)
  rw [lg_entry_eq]
  generalize (lg_sl (([.ref mo, .int i] : List Value)) ++ List.replicate (2 - (lg_sl (([.ref mo, .int i] : List Value))).length) Slot.unset).toArray = ls at hl ⊢
  have hl : lv_has ls 2 [(0, .ref mo), (1, .int i)] := hl
  obtain ⟨H, hHe⟩ : ∃ H : Heap, H = s.heap := ⟨_, rfl⟩
  rw [← hHe] at hP
  have hS : va_S A s.heap H [] := by rw [hHe]; exact hS
  obtain ⟨locs, hlo⟩ : ∃ L : List Loc, L = [] := ⟨_, rfl⟩
  rw [← hlo] at hS ⊢
  rw [← hHe]
  refine lv_aload_n hx hb dX4_low_0 rfl (lv_at hl 0 rfl) ?_
  refine lv_aload_n hx hb dX4_low_1 rfl (lv_at hl 0 rfl) ?_
  refine lv_iload_n hx hb dX4_low_2 rfl (lv_at hl 1 rfl) ?_
  have hPc := hP.sub (ws' := [(mo, .inr (3, [.int tv, .int (nI (2 ^ k)), .ref ma, .ref mb, .int (nI rs), .ref lo, .ref hi, .ref kp, .ref ot, .ref su]))]) [0] rfl
  have hDc := hD.sub (ws' := [(mo, .inr (3, [.int tv, .int (nI (2 ^ k)), .ref ma, .ref mb, .int (nI rs), .ref lo, .ref hi, .ref kp, .ref ot, .ref su]))]) [0] (by decide) rfl
  have hKc := hK.sub (tys' := []) [] rfl
  have hFc := va_free (wc := [(mo, .inr (3, [.int tv, .int (nI (2 ^ k)), .ref ma, .ref mb, .int (nI rs), .ref lo, .ref hi, .ref kp, .ref ot, .ref su]))]) hD hS hA [0] rfl
  refine va_calli (va_runV (As := [.int i]) (rest := [.ref mo]) ⟨hx, hb, hml, hown, hts⟩ (c_X4_noResult_bad l dC dI mo ma mb lo hi kp ot su k rs tv i H.size hbad) (cwV 1 hts gX4_low_X4_noResult rfl rfl rfl (by decide +kernel) ⟨Nat.le_of_ble_eq_true rfl, Nat.le_of_ble_eq_true rfl⟩) ⟨fun a U g mk q => by obtain ⟨q0, q1, qP, qK, qD⟩ := q; exact ⟨q0, q1, qP, va_K.moved (u := U) (U := U.calling g mk a) (Vm.Alike.refl U.vm) qK, qD⟩, va_recv hKc hPc (ci := 3) (q0 := 0) rfl rfl, fun U hU hW => ⟨rfl, by rw [hU], by rw [hU]; exact hPc, va_K.moved hW.alike hKc, hDc.weaken (fun _ _ _ _ => trivial)⟩⟩ rfl rfl hl.1 rfl (lv_room (Nat.le_of_ble_eq_true rfl)) dX4_low_3 ⟨Nat.le_of_ble_eq_true rfl, Nat.le_of_ble_eq_true rfl⟩) hS (fun q _ h => hFc q h) hFc (fun r9 u9 t9 H1 locs ht hvm hw hB hz1 hk1 hS => ?_)
  obtain ⟨hP1, hD1⟩ := hB
  rw [ht] at hP1
  try dsimp only at hw
  obtain ⟨hP, hD⟩ := va_join (wr := []) (w1 := [(mo, .inr (3, [.int tv, .int (nI (2 ^ k)), .ref ma, .ref mb, .int (nI rs), .ref lo, .ref hi, .ref kp, .ref ot, .ref su]))]) hP hD [0] [] rfl rfl (by decide) (by decide) hk1 hFc hP1 hD1
  generalize H1 = H at hP hS ⊢
  have hP : va_P (dC, dI) vwCl [(mo, .inr (3, [.int tv, .int (nI (2 ^ k)), .ref ma, .ref mb, .int (nI rs), .ref lo, .ref hi, .ref kp, .ref ot, .ref su]))] H := hP
  have hD : va_D A [(mo, .inr (3, [.int tv, .int (nI (2 ^ k)), .ref ma, .ref mb, .int (nI rs), .ref lo, .ref hi, .ref kp, .ref ot, .ref su]))] := hD
  clear hPc hDc hKc hFc hP1 hD1 hk1 hz1 hvm ht
  subst hw
  refine lv_if_eq (tgt := 13) hx hb dX4_low_6 (by decide) (fun c_1 => ?_) (fun c_1 => ?_)
  · have c_1 : 1 = 0 := (nI_eq (a := 1) (b := 0) (by omega) (by omega)).mp c_1
    omega
  · have c_1 : ¬ (1 = 0) := fun zq9 => c_1 ((nI_eq (a := 1) (b := 0) (by omega) (by omega)).mpr zq9)
    refine lv_iconst (v := nI 1) hx hb dX4_low_9 (by decide) ?_
    refine lv_goto (tgt := 14) hx hb dX4_low_10 (by decide) ?_
    refine va_put (D := (dC, dI)) (ci := 3) (v := .int (nI 1)) (ty := .int) (C := RX4) (T := TX4) (N := 10) hx hb hts (by decide +kernel) tyX4 tyX4_ok nmX4 hown hK hP hD hS 0 rfl rfl 0 (by decide) (hts (.fieldLink RX4 36 "ThreePrimesModel" "thrown" "I") (by decide +kernel)) (fun _ h9 => h9) rfl (by decide +kernel) rfl rfl (Nat.le_of_ble_eq_true rfl) dX4_low_14 (fun H locs hP hD hS => ?_)
    have hP : va_P (dC, dI) vwCl [(mo, .inr (3, [.int (nI 1), .int (nI (2 ^ k)), .ref ma, .ref mb, .int (nI rs), .ref lo, .ref hi, .ref kp, .ref ot, .ref su]))] H := hP
    have hD : va_D A [(mo, .inr (3, [.int (nI 1), .int (nI (2 ^ k)), .ref ma, .ref mb, .int (nI rs), .ref lo, .ref hi, .ref kp, .ref ot, .ref su]))] := hD
    refine lv_aload_n hx hb dX4_low_17 rfl (lv_at hl 0 rfl) ?_
    refine va_get (D := (dC, dI)) (ci := 3) (v := .int (nI 1)) (C := RX4) (T := TX4) (N := 10) hx hb hts (by decide +kernel) hown hK hP 0 rfl rfl 0 (by decide) (hts (.fieldLink RX4 36 "ThreePrimesModel" "thrown" "I") (by decide +kernel)) (fun _ h9 => h9) rfl dX4_low_18 ?_
    refine lv_if_le (tgt := 28) hx hb dX4_low_21 (by decide) (fun c_2 => ?_) (fun c_2 => ?_)
    · have c_2 : 1 ≤ 0 := (nI_leI (a := 1) (b := 0) (by omega) (by omega)).mp c_2
      omega
    · have c_2 : ¬ (1 ≤ 0) := fun zq9 => c_2 ((nI_leI (a := 1) (b := 0) (by omega) (by omega)).mpr zq9)
      refine lv_lconst (v := lI 0) hx hb dX4_low_24 (by decide) ?_
      refine lv_goto (tgt := 34) hx hb dX4_low_25 (by decide) ?_
      have hP9 : va_P (dC, dI) vwCl [(mo, .inr (3, [.int (nI 1), .int (nI (2 ^ k)), .ref ma, .ref mb, .int (nI rs), .ref lo, .ref hi, .ref kp, .ref ot, .ref su]))] H := hP.sub [0] rfl
      have hD9 : va_D A [(mo, .inr (3, [.int (nI 1), .int (nI (2 ^ k)), .ref ma, .ref mb, .int (nI rs), .ref lo, .ref hi, .ref kp, .ref ot, .ref su]))] := hD.sub [0] (by decide) rfl
      exact W.lret (v := lI 0) hx hb hr (fun tq9 ht hW => ⟨⟨lI 0, (), rfl, trivial, by rw [ht]; exact hP9, hD9⟩, hS.F ht⟩) hS.2.2 dX4_low_34

abbrev q_X4_high_ok (dC : Nat → ClassId) (dI : Nat → Nat → Nat) (mo ma mb lo hi kp ot su k rs : Nat) (tv : Int32) (cJ : ClassId) (HW : Nat → Int) (j : Nat) (A : Nat → Prop) : Array Value → State → Outcome → State → Prop := va_Qi (fun (r : Int32) (u : Unit) => r = iI (HW j)) (fun u t => va_P (dC, dI) vwCl [(mo, .inr (3, [.int (nI 0), .int (nI (2 ^ k)), .ref ma, .ref mb, .int (nI rs), .ref lo, .ref hi, .ref kp, .ref ot, .ref su])), (hi, .inl (cJ, 511, .inr (.inl (fun j => lI (HW j)))))] t.heap ∧ va_D A [(mo, .inr (3, [.int (nI 0), .int (nI (2 ^ k)), .ref ma, .ref mb, .int (nI rs), .ref lo, .ref hi, .ref kp, .ref ot, .ref su])), (hi, .inl (cJ, 511, .inr (.inl (fun j => lI (HW j)))))]) A
set_option maxHeartbeats 4000000 in
set_option maxRecDepth 100000 in
theorem c_X4_high_ok (l : Launch) (dC : Nat → ClassId) (dI : Nat → Nat → Nat) (mo ma mb lo hi kp ot su k rs : Nat) (tv : Int32) (cJ : ClassId) (HW : Nat → Int) (j : Nat) (sz : Nat) (zj : j < rs) (zrs : rs ≤ 511) : Met l yX4_high wsX4_high ({ frames := 1, cells := 0, slots := 0, locals := 21 }) (va_Pc [.ref mo, .int (nI j)] (fun U => U.heap.size = sz ∧ va_P (dC, dI) vwCl [(mo, .inr (3, [.int tv, .int (nI (2 ^ k)), .ref ma, .ref mb, .int (nI rs), .ref lo, .ref hi, .ref kp, .ref ot, .ref su])), (hi, .inl (cJ, 511, .inr (.inl (fun j => lI (HW j)))))] U.heap ∧ va_K (dC, dI) vwCl [(cJ, .long)] U ∧ va_D (fun _ => True) [(mo, .inr (3, [.int tv, .int (nI (2 ^ k)), .ref ma, .ref mb, .int (nI rs), .ref lo, .ref hi, .ref kp, .ref ot, .ref su])), (hi, .inl (cJ, 511, .inr (.inl (fun j => lI (HW j)))))])) (q_X4_high_ok dC dI mo ma mb lo hi kp ot su k rs tv cJ HW j (va_A [(mo, .inr (3, [.int tv, .int (nI (2 ^ k)), .ref ma, .ref mb, .int (nI rs), .ref lo, .ref hi, .ref kp, .ref ot, .ref su])), (hi, .inl (cJ, 511, .inr (.inl (fun j => lI (HW j)))))] sz)) 0 0 (va_A [(mo, .inr (3, [.int tv, .int (nI (2 ^ k)), .ref ma, .ref mb, .int (nI rs), .ref lo, .ref hi, .ref kp, .ref ot, .ref su])), (hi, .inl (cJ, 511, .inr (.inl (fun j => lI (HW j)))))] sz) := by
  refine Met.ofW (cc := cX4_high) (maxL := 2) (ret := (some .int)) (by decide) rfl ?_
  intro p e s m args below meth c s₁ B hml hv
  obtain ⟨rfl, hsz, hP, hK, hD0⟩ := hv
  have hx := B.exec
  have hb := B.bytes
  have hr := B.returns
  have hts := atoms_spec (ws := wsX4_high) B.pre
  have hown : s.vm.findClass RX4 = some m.cls := findClass_of_methodNamed B.named
  have hlocks := B.notSynchronized
  subst hsz
  have hD := hD0.self (sz := s.heap.size)
  generalize hAe : va_A [(mo, .inr (3, [.int tv, .int (nI (2 ^ k)), .ref ma, .ref mb, .int (nI rs), .ref lo, .ref hi, .ref kp, .ref ot, .ref su])), (hi, .inl (cJ, 511, .inr (.inl (fun j => lI (HW j)))))] s.heap.size = A at hD ⊢
  have hA : ∀ q : Nat, s.heap.size ≤ q → A q := fun q h => by rw [← hAe]; exact Or.inr h
  have hS : va_S A s.heap s.heap [] := va_S.rf
  have hP : va_P (dC, dI) vwCl [(mo, .inr (3, [.int tv, .int (nI (2 ^ k)), .ref ma, .ref mb, .int (nI rs), .ref lo, .ref hi, .ref kp, .ref ot, .ref su])), (hi, .inl (cJ, 511, .inr (.inl (fun j => lI (HW j)))))] s.heap := hP
  have hl := lv_entry (([.ref mo, .int (nI j)] : List Value)) (n := 2) (Nat.le_of_ble_eq_true rfl)
  rw [lg_entry_eq]
  generalize (lg_sl (([.ref mo, .int (nI j)] : List Value)) ++ List.replicate (2 - (lg_sl (([.ref mo, .int (nI j)] : List Value))).length) Slot.unset).toArray = ls at hl ⊢
  have hl : lv_has ls 2 [(0, .ref mo), (1, .int (nI j))] := hl
  obtain ⟨H, hHe⟩ : ∃ H : Heap, H = s.heap := ⟨_, rfl⟩
  rw [← hHe] at hP
  have hS : va_S A s.heap H [] := by rw [hHe]; exact hS
  obtain ⟨locs, hlo⟩ : ∃ L : List Loc, L = [] := ⟨_, rfl⟩
  rw [← hlo] at hS ⊢
  rw [← hHe]
  refine lv_aload_n hx hb dX4_high_0 rfl (lv_at hl 0 rfl) ?_
  refine lv_aload_n hx hb dX4_high_1 rfl (lv_at hl 0 rfl) ?_
  refine lv_iload_n hx hb dX4_high_2 rfl (lv_at hl 1 rfl) ?_
  have hPc := hP.sub (ws' := [(mo, .inr (3, [.int tv, .int (nI (2 ^ k)), .ref ma, .ref mb, .int (nI rs), .ref lo, .ref hi, .ref kp, .ref ot, .ref su]))]) [0] rfl
  have hDc := hD.sub (ws' := [(mo, .inr (3, [.int tv, .int (nI (2 ^ k)), .ref ma, .ref mb, .int (nI rs), .ref lo, .ref hi, .ref kp, .ref ot, .ref su]))]) [0] (by decide) rfl
  have hKc := hK.sub (tys' := []) [] rfl
  have hFc := va_free (wc := [(mo, .inr (3, [.int tv, .int (nI (2 ^ k)), .ref ma, .ref mb, .int (nI rs), .ref lo, .ref hi, .ref kp, .ref ot, .ref su]))]) hD hS hA [0] rfl
  refine va_calli (va_runV (As := [.int (nI j)]) (rest := [.ref mo]) ⟨hx, hb, hml, hown, hts⟩ (c_X4_noResult_ok l dC dI mo ma mb lo hi kp ot su k rs tv j H.size (by omega) (by omega)) (cwV 1 hts gX4_high_X4_noResult rfl rfl rfl (by decide +kernel) ⟨Nat.le_of_ble_eq_true rfl, Nat.le_of_ble_eq_true rfl⟩) ⟨fun a U g mk q => by obtain ⟨q0, q1, qP, qK, qD⟩ := q; exact ⟨q0, q1, qP, va_K.moved (u := U) (U := U.calling g mk a) (Vm.Alike.refl U.vm) qK, qD⟩, va_recv hKc hPc (ci := 3) (q0 := 0) rfl rfl, fun U hU hW => ⟨rfl, by rw [hU], by rw [hU]; exact hPc, va_K.moved hW.alike hKc, hDc.weaken (fun _ _ _ _ => trivial)⟩⟩ rfl rfl hl.1 rfl (lv_room (Nat.le_of_ble_eq_true rfl)) dX4_high_3 ⟨Nat.le_of_ble_eq_true rfl, Nat.le_of_ble_eq_true rfl⟩) hS (fun q _ h => hFc q h) hFc (fun r9 u9 t9 H1 locs ht hvm hw hB hz1 hk1 hS => ?_)
  obtain ⟨hP1, hD1⟩ := hB
  rw [ht] at hP1
  try dsimp only at hw
  obtain ⟨hP, hD⟩ := va_join (wr := [(hi, .inl (cJ, 511, .inr (.inl (fun j => lI (HW j)))))]) (w1 := [(mo, .inr (3, [.int tv, .int (nI (2 ^ k)), .ref ma, .ref mb, .int (nI rs), .ref lo, .ref hi, .ref kp, .ref ot, .ref su]))]) hP hD [0] [1] rfl rfl (by decide) (by decide) hk1 hFc hP1 hD1
  generalize H1 = H at hP hS ⊢
  have hP : va_P (dC, dI) vwCl [(hi, .inl (cJ, 511, .inr (.inl (fun j => lI (HW j))))), (mo, .inr (3, [.int tv, .int (nI (2 ^ k)), .ref ma, .ref mb, .int (nI rs), .ref lo, .ref hi, .ref kp, .ref ot, .ref su]))] H := hP
  have hD : va_D A [(hi, .inl (cJ, 511, .inr (.inl (fun j => lI (HW j))))), (mo, .inr (3, [.int tv, .int (nI (2 ^ k)), .ref ma, .ref mb, .int (nI rs), .ref lo, .ref hi, .ref kp, .ref ot, .ref su]))] := hD
  clear hPc hDc hKc hFc hP1 hD1 hk1 hz1 hvm ht
  subst hw
  refine lv_if_eq (tgt := 13) hx hb dX4_high_6 (by decide) (fun c_1 => ?_) (fun c_1 => ?_)
  · have c_1 : 0 = 0 := (nI_eq (a := 0) (b := 0) (by omega) (by omega)).mp c_1
    refine lv_iconst (v := nI 0) hx hb dX4_high_13 (by decide) ?_
    refine va_put (D := (dC, dI)) (ci := 3) (v := .int (nI 0)) (ty := .int) (C := RX4) (T := TX4) (N := 10) hx hb hts (by decide +kernel) tyX4 tyX4_ok nmX4 hown hK hP hD hS 1 rfl rfl 0 (by decide) (hts (.fieldLink RX4 36 "ThreePrimesModel" "thrown" "I") (by decide +kernel)) (fun _ h9 => h9) rfl (by decide +kernel) rfl rfl (Nat.le_of_ble_eq_true rfl) dX4_high_14 (fun H locs hP hD hS => ?_)
    have hP : va_P (dC, dI) vwCl [(hi, .inl (cJ, 511, .inr (.inl (fun j => lI (HW j))))), (mo, .inr (3, [.int (nI 0), .int (nI (2 ^ k)), .ref ma, .ref mb, .int (nI rs), .ref lo, .ref hi, .ref kp, .ref ot, .ref su]))] H := hP
    have hD : va_D A [(hi, .inl (cJ, 511, .inr (.inl (fun j => lI (HW j))))), (mo, .inr (3, [.int (nI 0), .int (nI (2 ^ k)), .ref ma, .ref mb, .int (nI rs), .ref lo, .ref hi, .ref kp, .ref ot, .ref su]))] := hD
    refine lv_aload_n hx hb dX4_high_17 rfl (lv_at hl 0 rfl) ?_
    refine va_get (D := (dC, dI)) (ci := 3) (v := .int (nI 0)) (C := RX4) (T := TX4) (N := 10) hx hb hts (by decide +kernel) hown hK hP 1 rfl rfl 0 (by decide) (hts (.fieldLink RX4 36 "ThreePrimesModel" "thrown" "I") (by decide +kernel)) (fun _ h9 => h9) rfl dX4_high_18 ?_
    refine lv_if_le (tgt := 28) hx hb dX4_high_21 (by decide) (fun c_2 => ?_) (fun c_2 => ?_)
    · have c_2 : 0 ≤ 0 := (nI_leI (a := 0) (b := 0) (by omega) (by omega)).mp c_2
      refine lv_aload_n hx hb dX4_high_28 rfl (lv_at hl 0 rfl) ?_
      refine va_get (D := (dC, dI)) (ci := 3) (v := .ref hi) (C := RX4) (T := TX4) (N := 10) hx hb hts (by decide +kernel) hown hK hP 1 rfl rfl 6 (by decide) (hts (.fieldLink RX4 24 "ThreePrimesModel" "high" "[J") (by decide +kernel)) (fun _ h9 => h9) rfl dX4_high_29 ?_
      refine lv_iload_n hx hb dX4_high_32 rfl (lv_at hl 1 rfl) ?_
      refine va_lald hx hb hK hP 0 0 rfl rfl (vp_in_nI (by omega) (by omega)) dX4_high_33 ?_
      refine W.eq (g2 := F0 m _ ls [.long (lI (HW j))]) (by rw [nI_clamp (by omega)]) ?_
      refine lv_l2i (v := iI (HW j)) hx hb dX4_high_34 (lI_i (HW j)) ?_
      have hP9 : va_P (dC, dI) vwCl [(mo, .inr (3, [.int (nI 0), .int (nI (2 ^ k)), .ref ma, .ref mb, .int (nI rs), .ref lo, .ref hi, .ref kp, .ref ot, .ref su])), (hi, .inl (cJ, 511, .inr (.inl (fun j => lI (HW j)))))] H := hP.sub [1, 0] rfl
      have hD9 : va_D A [(mo, .inr (3, [.int (nI 0), .int (nI (2 ^ k)), .ref ma, .ref mb, .int (nI rs), .ref lo, .ref hi, .ref kp, .ref ot, .ref su])), (hi, .inl (cJ, 511, .inr (.inl (fun j => lI (HW j)))))] := hD.sub [1, 0] (by decide) rfl
      exact W.iret (v := iI (HW j)) hx hb hr (fun tq9 ht hW => ⟨⟨iI (HW j), (), rfl, rfl, by rw [ht]; exact hP9, hD9⟩, hS.F ht⟩) hS.2.2 dX4_high_35
    · have c_2 : ¬ (0 ≤ 0) := fun zq9 => c_2 ((nI_leI (a := 0) (b := 0) (by omega) (by omega)).mpr zq9)
      omega
  · have c_1 : ¬ (0 = 0) := fun zq9 => c_1 ((nI_eq (a := 0) (b := 0) (by omega) (by omega)).mpr zq9)
    omega

abbrev q_X4_high_bad (dC : Nat → ClassId) (dI : Nat → Nat → Nat) (mo ma mb lo hi kp ot su k rs : Nat) (tv : Int32) (i : Int32) (A : Nat → Prop) : Array Value → State → Outcome → State → Prop := va_Qi (fun (r : Int32) (u : Unit) => True) (fun u t => va_P (dC, dI) vwCl [(mo, .inr (3, [.int (nI 1), .int (nI (2 ^ k)), .ref ma, .ref mb, .int (nI rs), .ref lo, .ref hi, .ref kp, .ref ot, .ref su]))] t.heap ∧ va_D A [(mo, .inr (3, [.int (nI 1), .int (nI (2 ^ k)), .ref ma, .ref mb, .int (nI rs), .ref lo, .ref hi, .ref kp, .ref ot, .ref su]))]) A
set_option maxHeartbeats 4000000 in
set_option maxRecDepth 100000 in
theorem c_X4_high_bad (l : Launch) (dC : Nat → ClassId) (dI : Nat → Nat → Nat) (mo ma mb lo hi kp ot su k rs : Nat) (tv : Int32) (i : Int32) (sz : Nat) (hbad : i < 0 ∨ nI rs ≤ i) : Met l yX4_high wsX4_high ({ frames := 1, cells := 0, slots := 0, locals := 21 }) (va_Pc [.ref mo, .int i] (fun U => U.heap.size = sz ∧ va_P (dC, dI) vwCl [(mo, .inr (3, [.int tv, .int (nI (2 ^ k)), .ref ma, .ref mb, .int (nI rs), .ref lo, .ref hi, .ref kp, .ref ot, .ref su]))] U.heap ∧ va_K (dC, dI) vwCl [] U ∧ va_D (fun _ => True) [(mo, .inr (3, [.int tv, .int (nI (2 ^ k)), .ref ma, .ref mb, .int (nI rs), .ref lo, .ref hi, .ref kp, .ref ot, .ref su]))])) (q_X4_high_bad dC dI mo ma mb lo hi kp ot su k rs tv i (va_A [(mo, .inr (3, [.int tv, .int (nI (2 ^ k)), .ref ma, .ref mb, .int (nI rs), .ref lo, .ref hi, .ref kp, .ref ot, .ref su]))] sz)) 0 0 (va_A [(mo, .inr (3, [.int tv, .int (nI (2 ^ k)), .ref ma, .ref mb, .int (nI rs), .ref lo, .ref hi, .ref kp, .ref ot, .ref su]))] sz) := by
  refine Met.ofW (cc := cX4_high) (maxL := 2) (ret := (some .int)) (by decide) rfl ?_
  intro p e s m args below meth c s₁ B hml hv
  obtain ⟨rfl, hsz, hP, hK, hD0⟩ := hv
  have hx := B.exec
  have hb := B.bytes
  have hr := B.returns
  have hts := atoms_spec (ws := wsX4_high) B.pre
  have hown : s.vm.findClass RX4 = some m.cls := findClass_of_methodNamed B.named
  have hlocks := B.notSynchronized
  subst hsz
  have hD := hD0.self (sz := s.heap.size)
  generalize hAe : va_A [(mo, .inr (3, [.int tv, .int (nI (2 ^ k)), .ref ma, .ref mb, .int (nI rs), .ref lo, .ref hi, .ref kp, .ref ot, .ref su]))] s.heap.size = A at hD ⊢
  have hA : ∀ q : Nat, s.heap.size ≤ q → A q := fun q h => by rw [← hAe]; exact Or.inr h
  have hS : va_S A s.heap s.heap [] := va_S.rf
  have hP : va_P (dC, dI) vwCl [(mo, .inr (3, [.int tv, .int (nI (2 ^ k)), .ref ma, .ref mb, .int (nI rs), .ref lo, .ref hi, .ref kp, .ref ot, .ref su]))] s.heap := hP
  have hl := lv_entry (([.ref mo, .int i] : List Value)) (n := 2) (Nat.le_of_ble_eq_true rfl)
  rw [lg_entry_eq]
  generalize (lg_sl (([.ref mo, .int i] : List Value)) ++ List.replicate (2 - (lg_sl (([.ref mo, .int i] : List Value))).length) Slot.unset).toArray = ls at hl ⊢
  have hl : lv_has ls 2 [(0, .ref mo), (1, .int i)] := hl
  obtain ⟨H, hHe⟩ : ∃ H : Heap, H = s.heap := ⟨_, rfl⟩
  rw [← hHe] at hP
  have hS : va_S A s.heap H [] := by rw [hHe]; exact hS
  obtain ⟨locs, hlo⟩ : ∃ L : List Loc, L = [] := ⟨_, rfl⟩
  rw [← hlo] at hS ⊢
  rw [← hHe]
  refine lv_aload_n hx hb dX4_high_0 rfl (lv_at hl 0 rfl) ?_
  refine lv_aload_n hx hb dX4_high_1 rfl (lv_at hl 0 rfl) ?_
  refine lv_iload_n hx hb dX4_high_2 rfl (lv_at hl 1 rfl) ?_
  have hPc := hP.sub (ws' := [(mo, .inr (3, [.int tv, .int (nI (2 ^ k)), .ref ma, .ref mb, .int (nI rs), .ref lo, .ref hi, .ref kp, .ref ot, .ref su]))]) [0] rfl
  have hDc := hD.sub (ws' := [(mo, .inr (3, [.int tv, .int (nI (2 ^ k)), .ref ma, .ref mb, .int (nI rs), .ref lo, .ref hi, .ref kp, .ref ot, .ref su]))]) [0] (by decide) rfl
  have hKc := hK.sub (tys' := []) [] rfl
  have hFc := va_free (wc := [(mo, .inr (3, [.int tv, .int (nI (2 ^ k)), .ref ma, .ref mb, .int (nI rs), .ref lo, .ref hi, .ref kp, .ref ot, .ref su]))]) hD hS hA [0] rfl
  refine va_calli (va_runV (As := [.int i]) (rest := [.ref mo]) ⟨hx, hb, hml, hown, hts⟩ (c_X4_noResult_bad l dC dI mo ma mb lo hi kp ot su k rs tv i H.size hbad) (cwV 1 hts gX4_high_X4_noResult rfl rfl rfl (by decide +kernel) ⟨Nat.le_of_ble_eq_true rfl, Nat.le_of_ble_eq_true rfl⟩) ⟨fun a U g mk q => by obtain ⟨q0, q1, qP, qK, qD⟩ := q; exact ⟨q0, q1, qP, va_K.moved (u := U) (U := U.calling g mk a) (Vm.Alike.refl U.vm) qK, qD⟩, va_recv hKc hPc (ci := 3) (q0 := 0) rfl rfl, fun U hU hW => ⟨rfl, by rw [hU], by rw [hU]; exact hPc, va_K.moved hW.alike hKc, hDc.weaken (fun _ _ _ _ => trivial)⟩⟩ rfl rfl hl.1 rfl (lv_room (Nat.le_of_ble_eq_true rfl)) dX4_high_3 ⟨Nat.le_of_ble_eq_true rfl, Nat.le_of_ble_eq_true rfl⟩) hS (fun q _ h => hFc q h) hFc (fun r9 u9 t9 H1 locs ht hvm hw hB hz1 hk1 hS => ?_)
  obtain ⟨hP1, hD1⟩ := hB
  rw [ht] at hP1
  try dsimp only at hw
  obtain ⟨hP, hD⟩ := va_join (wr := []) (w1 := [(mo, .inr (3, [.int tv, .int (nI (2 ^ k)), .ref ma, .ref mb, .int (nI rs), .ref lo, .ref hi, .ref kp, .ref ot, .ref su]))]) hP hD [0] [] rfl rfl (by decide) (by decide) hk1 hFc hP1 hD1
  generalize H1 = H at hP hS ⊢
  have hP : va_P (dC, dI) vwCl [(mo, .inr (3, [.int tv, .int (nI (2 ^ k)), .ref ma, .ref mb, .int (nI rs), .ref lo, .ref hi, .ref kp, .ref ot, .ref su]))] H := hP
  have hD : va_D A [(mo, .inr (3, [.int tv, .int (nI (2 ^ k)), .ref ma, .ref mb, .int (nI rs), .ref lo, .ref hi, .ref kp, .ref ot, .ref su]))] := hD
  clear hPc hDc hKc hFc hP1 hD1 hk1 hz1 hvm ht
  subst hw
  refine lv_if_eq (tgt := 13) hx hb dX4_high_6 (by decide) (fun c_1 => ?_) (fun c_1 => ?_)
  · have c_1 : 1 = 0 := (nI_eq (a := 1) (b := 0) (by omega) (by omega)).mp c_1
    omega
  · have c_1 : ¬ (1 = 0) := fun zq9 => c_1 ((nI_eq (a := 1) (b := 0) (by omega) (by omega)).mpr zq9)
    refine lv_iconst (v := nI 1) hx hb dX4_high_9 (by decide) ?_
    refine lv_goto (tgt := 14) hx hb dX4_high_10 (by decide) ?_
    refine va_put (D := (dC, dI)) (ci := 3) (v := .int (nI 1)) (ty := .int) (C := RX4) (T := TX4) (N := 10) hx hb hts (by decide +kernel) tyX4 tyX4_ok nmX4 hown hK hP hD hS 0 rfl rfl 0 (by decide) (hts (.fieldLink RX4 36 "ThreePrimesModel" "thrown" "I") (by decide +kernel)) (fun _ h9 => h9) rfl (by decide +kernel) rfl rfl (Nat.le_of_ble_eq_true rfl) dX4_high_14 (fun H locs hP hD hS => ?_)
    have hP : va_P (dC, dI) vwCl [(mo, .inr (3, [.int (nI 1), .int (nI (2 ^ k)), .ref ma, .ref mb, .int (nI rs), .ref lo, .ref hi, .ref kp, .ref ot, .ref su]))] H := hP
    have hD : va_D A [(mo, .inr (3, [.int (nI 1), .int (nI (2 ^ k)), .ref ma, .ref mb, .int (nI rs), .ref lo, .ref hi, .ref kp, .ref ot, .ref su]))] := hD
    refine lv_aload_n hx hb dX4_high_17 rfl (lv_at hl 0 rfl) ?_
    refine va_get (D := (dC, dI)) (ci := 3) (v := .int (nI 1)) (C := RX4) (T := TX4) (N := 10) hx hb hts (by decide +kernel) hown hK hP 0 rfl rfl 0 (by decide) (hts (.fieldLink RX4 36 "ThreePrimesModel" "thrown" "I") (by decide +kernel)) (fun _ h9 => h9) rfl dX4_high_18 ?_
    refine lv_if_le (tgt := 28) hx hb dX4_high_21 (by decide) (fun c_2 => ?_) (fun c_2 => ?_)
    · have c_2 : 1 ≤ 0 := (nI_leI (a := 1) (b := 0) (by omega) (by omega)).mp c_2
      omega
    · have c_2 : ¬ (1 ≤ 0) := fun zq9 => c_2 ((nI_leI (a := 1) (b := 0) (by omega) (by omega)).mpr zq9)
      refine lv_iconst (v := nI 0) hx hb dX4_high_24 (by decide) ?_
      refine lv_goto (tgt := 35) hx hb dX4_high_25 (by decide) ?_
      have hP9 : va_P (dC, dI) vwCl [(mo, .inr (3, [.int (nI 1), .int (nI (2 ^ k)), .ref ma, .ref mb, .int (nI rs), .ref lo, .ref hi, .ref kp, .ref ot, .ref su]))] H := hP.sub [0] rfl
      have hD9 : va_D A [(mo, .inr (3, [.int (nI 1), .int (nI (2 ^ k)), .ref ma, .ref mb, .int (nI rs), .ref lo, .ref hi, .ref kp, .ref ot, .ref su]))] := hD.sub [0] (by decide) rfl
      exact W.iret (v := nI 0) hx hb hr (fun tq9 ht hW => ⟨⟨nI 0, (), rfl, trivial, by rw [ht]; exact hP9, hD9⟩, hS.F ht⟩) hS.2.2 dX4_high_35

abbrev q_X4_rest_ok (dC : Nat → ClassId) (dI : Nat → Nat → Nat) (mo ma mb lo hi kp ot su k rs : Nat) (tv : Int32) (cJ : ClassId) (LW HW : Nat → Int) (q j : Nat) (A : Nat → Prop) : Array Value → State → Outcome → State → Prop := va_Qi (fun (r : Int32) (u : Unit) => r = iI (LW j % (prN q : Int))) (fun u t => va_P (dC, dI) vwCl [(mo, .inr (3, [.int (nI 0), .int (nI (2 ^ k)), .ref ma, .ref mb, .int (nI rs), .ref lo, .ref hi, .ref kp, .ref ot, .ref su])), (lo, .inl (cJ, 511, .inr (.inl (fun j => lI (LW j))))), (hi, .inl (cJ, 511, .inr (.inl (fun j => lI (HW j)))))] t.heap ∧ va_D A [(mo, .inr (3, [.int (nI 0), .int (nI (2 ^ k)), .ref ma, .ref mb, .int (nI rs), .ref lo, .ref hi, .ref kp, .ref ot, .ref su])), (lo, .inl (cJ, 511, .inr (.inl (fun j => lI (LW j))))), (hi, .inl (cJ, 511, .inr (.inl (fun j => lI (HW j)))))]) A
set_option maxHeartbeats 4000000 in
set_option maxRecDepth 100000 in
theorem c_X4_rest_ok (l : Launch) (dC : Nat → ClassId) (dI : Nat → Nat → Nat) (mo ma mb lo hi kp ot su k rs : Nat) (tv : Int32) (cJ : ClassId) (LW HW : Nat → Int) (q j : Nat) (sz : Nat) (zq : q < 3) (zj : j < rs) (zrs : rs ≤ 511) (zH : HW j = LW j / 18446744073709551616) (zH1 : -2 ^ 62 ≤ HW j) (zH2 : HW j < 2 ^ 62) : Met l yX4_rest wsX4_rest ({ frames := 1, cells := 0, slots := 0, locals := 25 }) (va_Pc [.ref mo, .int (nI q), .int (nI j)] (fun U => U.heap.size = sz ∧ va_P (dC, dI) vwCl [(mo, .inr (3, [.int tv, .int (nI (2 ^ k)), .ref ma, .ref mb, .int (nI rs), .ref lo, .ref hi, .ref kp, .ref ot, .ref su])), (lo, .inl (cJ, 511, .inr (.inl (fun j => lI (LW j))))), (hi, .inl (cJ, 511, .inr (.inl (fun j => lI (HW j)))))] U.heap ∧ va_K (dC, dI) vwCl [(cJ, .long)] U ∧ va_D (fun _ => True) [(mo, .inr (3, [.int tv, .int (nI (2 ^ k)), .ref ma, .ref mb, .int (nI rs), .ref lo, .ref hi, .ref kp, .ref ot, .ref su])), (lo, .inl (cJ, 511, .inr (.inl (fun j => lI (LW j))))), (hi, .inl (cJ, 511, .inr (.inl (fun j => lI (HW j)))))])) (q_X4_rest_ok dC dI mo ma mb lo hi kp ot su k rs tv cJ LW HW q j (va_A [(mo, .inr (3, [.int tv, .int (nI (2 ^ k)), .ref ma, .ref mb, .int (nI rs), .ref lo, .ref hi, .ref kp, .ref ot, .ref su])), (lo, .inl (cJ, 511, .inr (.inl (fun j => lI (LW j))))), (hi, .inl (cJ, 511, .inr (.inl (fun j => lI (HW j)))))] sz)) 0 0 (va_A [(mo, .inr (3, [.int tv, .int (nI (2 ^ k)), .ref ma, .ref mb, .int (nI rs), .ref lo, .ref hi, .ref kp, .ref ot, .ref su])), (lo, .inl (cJ, 511, .inr (.inl (fun j => lI (LW j))))), (hi, .inl (cJ, 511, .inr (.inl (fun j => lI (HW j)))))] sz) := by
  refine Met.ofW (cc := cX4_rest) (maxL := 8) (ret := (some .int)) (by decide) rfl ?_
  intro p e s m args below meth c s₁ B hml hv
  obtain ⟨rfl, hsz, hP, hK, hD0⟩ := hv
  have hx := B.exec
  have hb := B.bytes
  have hr := B.returns
  have hts := atoms_spec (ws := wsX4_rest) B.pre
  have hown : s.vm.findClass RX4 = some m.cls := findClass_of_methodNamed B.named
  have hlocks := B.notSynchronized
  subst hsz
  have hD := hD0.self (sz := s.heap.size)
  generalize hAe : va_A [(mo, .inr (3, [.int tv, .int (nI (2 ^ k)), .ref ma, .ref mb, .int (nI rs), .ref lo, .ref hi, .ref kp, .ref ot, .ref su])), (lo, .inl (cJ, 511, .inr (.inl (fun j => lI (LW j))))), (hi, .inl (cJ, 511, .inr (.inl (fun j => lI (HW j)))))] s.heap.size = A at hD ⊢
  have hA : ∀ q : Nat, s.heap.size ≤ q → A q := fun q h => by rw [← hAe]; exact Or.inr h
  have hS : va_S A s.heap s.heap [] := va_S.rf
  have hP : va_P (dC, dI) vwCl [(mo, .inr (3, [.int tv, .int (nI (2 ^ k)), .ref ma, .ref mb, .int (nI rs), .ref lo, .ref hi, .ref kp, .ref ot, .ref su])), (lo, .inl (cJ, 511, .inr (.inl (fun j => lI (LW j))))), (hi, .inl (cJ, 511, .inr (.inl (fun j => lI (HW j)))))] s.heap := hP
  have hl := lv_entry (([.ref mo, .int (nI q), .int (nI j)] : List Value)) (n := 8) (Nat.le_of_ble_eq_true rfl)
  rw [lg_entry_eq]
  generalize (lg_sl (([.ref mo, .int (nI q), .int (nI j)] : List Value)) ++ List.replicate (8 - (lg_sl (([.ref mo, .int (nI q), .int (nI j)] : List Value))).length) Slot.unset).toArray = ls at hl ⊢
  have hl : lv_has ls 8 [(0, .ref mo), (1, .int (nI q)), (2, .int (nI j))] := hl
  obtain ⟨H, hHe⟩ : ∃ H : Heap, H = s.heap := ⟨_, rfl⟩
  rw [← hHe] at hP
  have hS : va_S A s.heap H [] := by rw [hHe]; exact hS
  obtain ⟨locs, hlo⟩ : ∃ L : List Loc, L = [] := ⟨_, rfl⟩
  rw [← hlo] at hS ⊢
  rw [← hHe]
  have hpr := prN_b q
  have hU := emod_rng (LW j) (show (0 : Int) < 18446744073709551616 by omega)
  have hr0 := emod_rng (HW j) (show (0 : Int) < prN q by omega)
  refine lv_aload_n hx hb dX4_rest_0 rfl (lv_at hl 0 rfl) ?_
  refine lv_iload_n hx hb dX4_rest_1 rfl (lv_at hl 1 rfl) ?_
  have hPc := hP.sub (ws' := []) [] rfl
  have hDc := hD.sub (ws' := []) [] (by decide) rfl
  have hKc := hK.sub (tys' := []) [] rfl
  have hFc := va_free (wc := []) hD hS hA [] rfl
  refine va_calli (va_runS (As := [.int (nI q)]) (rest := [.ref mo]) ⟨hx, hb, hml, hown, hts⟩ (c_X4_noPrime_ok l dC dI q H.size (by omega)) (va_cwS 1 hts gX4_rest_X4_noPrime rfl rfl rfl (by decide +kernel) ⟨Nat.le_of_ble_eq_true rfl, Nat.le_of_ble_eq_true rfl⟩) ⟨fun a U g mk q => by obtain ⟨q0, q1, qP, qK, qD⟩ := q; exact ⟨q0, q1, qP, va_K.moved (u := U) (U := U.calling g mk a) (Vm.Alike.refl U.vm) qK, qD⟩, fun U hU hW => ⟨rfl, by rw [hU], by rw [hU]; exact hPc, va_K.moved hW.alike hKc, hDc.weaken (fun _ _ _ _ => trivial)⟩⟩ rfl rfl hl.1 rfl (lv_room (Nat.le_of_ble_eq_true rfl)) dX4_rest_2 ⟨Nat.le_of_ble_eq_true rfl, Nat.le_of_ble_eq_true rfl⟩) hS (fun q _ h => hFc q h) hFc (fun r9 u9 t9 H1 locs ht hvm hw hB hz1 hk1 hS => ?_)
  obtain ⟨hP1, hD1⟩ := hB
  rw [ht] at hP1
  try dsimp only at hw
  obtain ⟨hP, hD⟩ := va_join (wr := [(mo, .inr (3, [.int tv, .int (nI (2 ^ k)), .ref ma, .ref mb, .int (nI rs), .ref lo, .ref hi, .ref kp, .ref ot, .ref su])), (lo, .inl (cJ, 511, .inr (.inl (fun j => lI (LW j))))), (hi, .inl (cJ, 511, .inr (.inl (fun j => lI (HW j)))))]) (w1 := []) hP hD [] [0, 1, 2] rfl rfl (by decide) (by decide) hk1 hFc hP1 hD1
  generalize H1 = H at hP hS ⊢
  have hP : va_P (dC, dI) vwCl [(mo, .inr (3, [.int tv, .int (nI (2 ^ k)), .ref ma, .ref mb, .int (nI rs), .ref lo, .ref hi, .ref kp, .ref ot, .ref su])), (lo, .inl (cJ, 511, .inr (.inl (fun j => lI (LW j))))), (hi, .inl (cJ, 511, .inr (.inl (fun j => lI (HW j)))))] H := hP
  have hD : va_D A [(mo, .inr (3, [.int tv, .int (nI (2 ^ k)), .ref ma, .ref mb, .int (nI rs), .ref lo, .ref hi, .ref kp, .ref ot, .ref su])), (lo, .inl (cJ, 511, .inr (.inl (fun j => lI (LW j))))), (hi, .inl (cJ, 511, .inr (.inl (fun j => lI (HW j)))))] := hD
  clear hPc hDc hKc hFc hP1 hD1 hk1 hz1 hvm ht
  subst hw
  refine lv_if_eq (tgt := 12) hx hb dX4_rest_5 (by decide) (fun c_1 => ?_) (fun c_1 => ?_)
  · have c_1 : 0 = 0 := (nI_eq (a := 0) (b := 0) (by omega) (by omega)).mp c_1
    refine lv_aload_n hx hb dX4_rest_12 rfl (lv_at hl 0 rfl) ?_
    refine lv_iload_n hx hb dX4_rest_13 rfl (lv_at hl 2 rfl) ?_
    have hPc := hP.sub (ws' := [(mo, .inr (3, [.int tv, .int (nI (2 ^ k)), .ref ma, .ref mb, .int (nI rs), .ref lo, .ref hi, .ref kp, .ref ot, .ref su]))]) [0] rfl
    have hDc := hD.sub (ws' := [(mo, .inr (3, [.int tv, .int (nI (2 ^ k)), .ref ma, .ref mb, .int (nI rs), .ref lo, .ref hi, .ref kp, .ref ot, .ref su]))]) [0] (by decide) rfl
    have hKc := hK.sub (tys' := []) [] rfl
    have hFc := va_free (wc := [(mo, .inr (3, [.int tv, .int (nI (2 ^ k)), .ref ma, .ref mb, .int (nI rs), .ref lo, .ref hi, .ref kp, .ref ot, .ref su]))]) hD hS hA [0] rfl
    refine va_calli (va_runV (As := [.int (nI j)]) (rest := [.ref mo]) ⟨hx, hb, hml, hown, hts⟩ (c_X4_noResult_ok l dC dI mo ma mb lo hi kp ot su k rs tv j H.size (by omega) (by omega)) (cwV 1 hts gX4_rest_X4_noResult rfl rfl rfl (by decide +kernel) ⟨Nat.le_of_ble_eq_true rfl, Nat.le_of_ble_eq_true rfl⟩) ⟨fun a U g mk q => by obtain ⟨q0, q1, qP, qK, qD⟩ := q; exact ⟨q0, q1, qP, va_K.moved (u := U) (U := U.calling g mk a) (Vm.Alike.refl U.vm) qK, qD⟩, va_recv hKc hPc (ci := 3) (q0 := 0) rfl rfl, fun U hU hW => ⟨rfl, by rw [hU], by rw [hU]; exact hPc, va_K.moved hW.alike hKc, hDc.weaken (fun _ _ _ _ => trivial)⟩⟩ rfl rfl hl.1 rfl (lv_room (Nat.le_of_ble_eq_true rfl)) dX4_rest_14 ⟨Nat.le_of_ble_eq_true rfl, Nat.le_of_ble_eq_true rfl⟩) hS (fun q _ h => hFc q h) hFc (fun r9 u9 t9 H1 locs ht hvm hw hB hz1 hk1 hS => ?_)
    obtain ⟨hP1, hD1⟩ := hB
    rw [ht] at hP1
    try dsimp only at hw
    obtain ⟨hP, hD⟩ := va_join (wr := [(lo, .inl (cJ, 511, .inr (.inl (fun j => lI (LW j))))), (hi, .inl (cJ, 511, .inr (.inl (fun j => lI (HW j)))))]) (w1 := [(mo, .inr (3, [.int tv, .int (nI (2 ^ k)), .ref ma, .ref mb, .int (nI rs), .ref lo, .ref hi, .ref kp, .ref ot, .ref su]))]) hP hD [0] [1, 2] rfl rfl (by decide) (by decide) hk1 hFc hP1 hD1
    generalize H1 = H at hP hS ⊢
    have hP : va_P (dC, dI) vwCl [(lo, .inl (cJ, 511, .inr (.inl (fun j => lI (LW j))))), (hi, .inl (cJ, 511, .inr (.inl (fun j => lI (HW j))))), (mo, .inr (3, [.int tv, .int (nI (2 ^ k)), .ref ma, .ref mb, .int (nI rs), .ref lo, .ref hi, .ref kp, .ref ot, .ref su]))] H := hP
    have hD : va_D A [(lo, .inl (cJ, 511, .inr (.inl (fun j => lI (LW j))))), (hi, .inl (cJ, 511, .inr (.inl (fun j => lI (HW j))))), (mo, .inr (3, [.int tv, .int (nI (2 ^ k)), .ref ma, .ref mb, .int (nI rs), .ref lo, .ref hi, .ref kp, .ref ot, .ref su]))] := hD
    clear hPc hDc hKc hFc hP1 hD1 hk1 hz1 hvm ht
    subst hw
    refine lv_if_eq (tgt := 24) hx hb dX4_rest_17 (by decide) (fun c_2 => ?_) (fun c_2 => ?_)
    · have c_2 : 0 = 0 := (nI_eq (a := 0) (b := 0) (by omega) (by omega)).mp c_2
      refine lv_iconst (v := nI 0) hx hb dX4_rest_24 (by decide) ?_
      refine va_put (D := (dC, dI)) (ci := 3) (v := .int (nI 0)) (ty := .int) (C := RX4) (T := TX4) (N := 10) hx hb hts (by decide +kernel) tyX4 tyX4_ok nmX4 hown hK hP hD hS 2 rfl rfl 0 (by decide) (hts (.fieldLink RX4 36 "ThreePrimesModel" "thrown" "I") (by decide +kernel)) (fun _ h9 => h9) rfl (by decide +kernel) rfl rfl (Nat.le_of_ble_eq_true rfl) dX4_rest_25 (fun H locs hP hD hS => ?_)
      have hP : va_P (dC, dI) vwCl [(lo, .inl (cJ, 511, .inr (.inl (fun j => lI (LW j))))), (hi, .inl (cJ, 511, .inr (.inl (fun j => lI (HW j))))), (mo, .inr (3, [.int (nI 0), .int (nI (2 ^ k)), .ref ma, .ref mb, .int (nI rs), .ref lo, .ref hi, .ref kp, .ref ot, .ref su]))] H := hP
      have hD : va_D A [(lo, .inl (cJ, 511, .inr (.inl (fun j => lI (LW j))))), (hi, .inl (cJ, 511, .inr (.inl (fun j => lI (HW j))))), (mo, .inr (3, [.int (nI 0), .int (nI (2 ^ k)), .ref ma, .ref mb, .int (nI rs), .ref lo, .ref hi, .ref kp, .ref ot, .ref su]))] := hD
      refine lv_aload_n hx hb dX4_rest_28 rfl (lv_at hl 0 rfl) ?_
      refine va_get (D := (dC, dI)) (ci := 3) (v := .int (nI 0)) (C := RX4) (T := TX4) (N := 10) hx hb hts (by decide +kernel) hown hK hP 2 rfl rfl 0 (by decide) (hts (.fieldLink RX4 36 "ThreePrimesModel" "thrown" "I") (by decide +kernel)) (fun _ h9 => h9) rfl dX4_rest_29 ?_
      refine lv_if_le (tgt := 37) hx hb dX4_rest_32 (by decide) (fun c_3 => ?_) (fun c_3 => ?_)
      · have c_3 : 0 ≤ 0 := (nI_leI (a := 0) (b := 0) (by omega) (by omega)).mp c_3
        refine lv_iload_n hx hb dX4_rest_37 rfl (lv_at hl 1 rfl) ?_
        have hPc := hP.sub (ws' := []) [] rfl
        have hDc := hD.sub (ws' := []) [] (by decide) rfl
        have hKc := hK.sub (tys' := []) [] rfl
        have hFc := va_free (wc := []) hD hS hA [] rfl
        refine va_calll (va_runS (As := [.int (nI q)]) (rest := []) ⟨hx, hb, hml, hown, hts⟩ (c_X4_prime l dC dI q H.size (by omega)) (va_cwS 1 hts gX4_rest_X4_prime rfl rfl rfl (by decide +kernel) ⟨Nat.le_of_ble_eq_true rfl, Nat.le_of_ble_eq_true rfl⟩) ⟨fun a U g mk q => by obtain ⟨q0, q1, qP, qK, qD⟩ := q; exact ⟨q0, q1, qP, va_K.moved (u := U) (U := U.calling g mk a) (Vm.Alike.refl U.vm) qK, qD⟩, fun U hU hW => ⟨rfl, by rw [hU], by rw [hU]; exact hPc, va_K.moved hW.alike hKc, hDc.weaken (fun _ _ _ _ => trivial)⟩⟩ rfl rfl hl.1 rfl (lv_room (Nat.le_of_ble_eq_true rfl)) dX4_rest_38 ⟨Nat.le_of_ble_eq_true rfl, Nat.le_of_ble_eq_true rfl⟩) hS (fun q _ h => hFc q h) hFc (fun r9 u9 t9 H1 locs ht hvm hw hB hz1 hk1 hS => ?_)
        obtain ⟨hP1, hD1⟩ := hB
        rw [ht] at hP1
        try dsimp only at hw
        obtain ⟨hP, hD⟩ := va_join (wr := [(lo, .inl (cJ, 511, .inr (.inl (fun j => lI (LW j))))), (hi, .inl (cJ, 511, .inr (.inl (fun j => lI (HW j))))), (mo, .inr (3, [.int (nI 0), .int (nI (2 ^ k)), .ref ma, .ref mb, .int (nI rs), .ref lo, .ref hi, .ref kp, .ref ot, .ref su]))]) (w1 := []) hP hD [] [0, 1, 2] rfl rfl (by decide) (by decide) hk1 hFc hP1 hD1
        generalize H1 = H at hP hS ⊢
        have hP : va_P (dC, dI) vwCl [(lo, .inl (cJ, 511, .inr (.inl (fun j => lI (LW j))))), (hi, .inl (cJ, 511, .inr (.inl (fun j => lI (HW j))))), (mo, .inr (3, [.int (nI 0), .int (nI (2 ^ k)), .ref ma, .ref mb, .int (nI rs), .ref lo, .ref hi, .ref kp, .ref ot, .ref su]))] H := hP
        have hD : va_D A [(lo, .inl (cJ, 511, .inr (.inl (fun j => lI (LW j))))), (hi, .inl (cJ, 511, .inr (.inl (fun j => lI (HW j))))), (mo, .inr (3, [.int (nI 0), .int (nI (2 ^ k)), .ref ma, .ref mb, .int (nI rs), .ref lo, .ref hi, .ref kp, .ref ot, .ref su]))] := hD
        clear hPc hDc hKc hFc hP1 hD1 hk1 hz1 hvm ht
        subst hw
        refine lv_lstore_n (lv' := [(3, .long (lI ((prN q : Nat) : Int))), (0, .ref mo), (1, .int (nI q)), (2, .int (nI j))]) hx hb dX4_rest_41 rfl hl (by decide) rfl (fun ls hl => ?_)
        refine lv_aload_n hx hb dX4_rest_42 rfl (lv_at hl 1 rfl) ?_
        refine va_get (D := (dC, dI)) (ci := 3) (v := .ref hi) (C := RX4) (T := TX4) (N := 10) hx hb hts (by decide +kernel) hown hK hP 2 rfl rfl 6 (by decide) (hts (.fieldLink RX4 24 "ThreePrimesModel" "high" "[J") (by decide +kernel)) (fun _ h9 => h9) rfl dX4_rest_43 ?_
        refine lv_iload_n hx hb dX4_rest_46 rfl (lv_at hl 3 rfl) ?_
        refine va_lald hx hb hK hP 1 0 rfl rfl (vp_in_nI (by omega) (by omega)) dX4_rest_47 ?_
        refine W.eq (g2 := F0 m _ ls [.long (lI (HW j))]) (by rw [nI_clamp (by omega)]) ?_
        refine lv_lload_n hx hb dX4_rest_48 rfl (lv_at hl 0 rfl) ?_
        have hPc := hP.sub (ws' := []) [] rfl
        have hDc := hD.sub (ws' := []) [] (by decide) rfl
        have hKc := hK.sub (tys' := []) [] rfl
        have hFc := va_free (wc := []) hD hS hA [] rfl
        refine va_calll (va_runS (As := [.long (lI (HW j)), .long (lI ((prN q : Nat) : Int))]) (rest := []) ⟨hx, hb, hml, hown, hts⟩ (c_X4_restOf l dC dI (HW j) (prN q) H.size (by omega) (by omega) (by omega) (by omega)) (va_cwS 2 hts gX4_rest_X4_restOf rfl rfl rfl (by decide +kernel) ⟨Nat.le_of_ble_eq_true rfl, Nat.le_of_ble_eq_true rfl⟩) ⟨fun a U g mk q => by obtain ⟨q0, q1, qP, qK, qD⟩ := q; exact ⟨q0, q1, qP, va_K.moved (u := U) (U := U.calling g mk a) (Vm.Alike.refl U.vm) qK, qD⟩, fun U hU hW => ⟨rfl, by rw [hU], by rw [hU]; exact hPc, va_K.moved hW.alike hKc, hDc.weaken (fun _ _ _ _ => trivial)⟩⟩ rfl rfl hl.1 rfl (lv_room (Nat.le_of_ble_eq_true rfl)) dX4_rest_49 ⟨Nat.le_of_ble_eq_true rfl, Nat.le_of_ble_eq_true rfl⟩) hS (fun q _ h => hFc q h) hFc (fun r9 u9 t9 H1 locs ht hvm hw hB hz1 hk1 hS => ?_)
        obtain ⟨hP1, hD1⟩ := hB
        rw [ht] at hP1
        try dsimp only at hw
        obtain ⟨hP, hD⟩ := va_join (wr := [(lo, .inl (cJ, 511, .inr (.inl (fun j => lI (LW j))))), (hi, .inl (cJ, 511, .inr (.inl (fun j => lI (HW j))))), (mo, .inr (3, [.int (nI 0), .int (nI (2 ^ k)), .ref ma, .ref mb, .int (nI rs), .ref lo, .ref hi, .ref kp, .ref ot, .ref su]))]) (w1 := []) hP hD [] [0, 1, 2] rfl rfl (by decide) (by decide) hk1 hFc hP1 hD1
        generalize H1 = H at hP hS ⊢
        have hP : va_P (dC, dI) vwCl [(lo, .inl (cJ, 511, .inr (.inl (fun j => lI (LW j))))), (hi, .inl (cJ, 511, .inr (.inl (fun j => lI (HW j))))), (mo, .inr (3, [.int (nI 0), .int (nI (2 ^ k)), .ref ma, .ref mb, .int (nI rs), .ref lo, .ref hi, .ref kp, .ref ot, .ref su]))] H := hP
        have hD : va_D A [(lo, .inl (cJ, 511, .inr (.inl (fun j => lI (LW j))))), (hi, .inl (cJ, 511, .inr (.inl (fun j => lI (HW j))))), (mo, .inr (3, [.int (nI 0), .int (nI (2 ^ k)), .ref ma, .ref mb, .int (nI rs), .ref lo, .ref hi, .ref kp, .ref ot, .ref su]))] := hD
        clear hPc hDc hKc hFc hP1 hD1 hk1 hz1 hvm ht
        subst hw
        refine lv_lstore (lv' := [(5, .long (lI ((HW j) % ((prN q : Nat) : Int)))), (3, .long (lI ((prN q : Nat) : Int))), (0, .ref mo), (1, .int (nI q)), (2, .int (nI j))]) hx hb dX4_rest_52 hl (by decide) rfl (fun ls hl => ?_)
        refine lv_bipush (v := nI 63) hx hb dX4_rest_54 (by decide) ?_
        refine W.eq (congrArg (fun z => F0 m _ ls (.int z :: _)) (show nI 63 = zm 64 from (zm_s 63).symm)) ?_
        refine lv_istore (lv' := [(7, .int (zm 64)), (5, .long (lI ((HW j) % ((prN q : Nat) : Int)))), (3, .long (lI ((prN q : Nat) : Int))), (0, .ref mo), (1, .int (nI q)), (2, .int (nI j))]) hx hb dX4_rest_56 hl (by decide) rfl (fun ls hl => ?_)
        have key_58 : ∀ (fuel : Nat) (z : Int) (c9 : Nat), (0 ≤ z) → (z < prN q) → (c9 ≤ 64) → (z = (HW j * 2 ^ (64 - c9) + LW j % 18446744073709551616 / 2 ^ c9) % (prN q : Int)) → (c9 < fuel) → ∀ (H : Heap) (locs : List Loc) (ls : Array Slot), va_P (dC, dI) vwCl [(mo, .inr (3, [.int (nI 0), .int (nI (2 ^ k)), .ref ma, .ref mb, .int (nI rs), .ref lo, .ref hi, .ref kp, .ref ot, .ref su])), (lo, .inl (cJ, 511, .inr (.inl (fun j => lI (LW j))))), (hi, .inl (cJ, 511, .inr (.inl (fun j => lI (HW j)))))] H → va_D A [(mo, .inr (3, [.int (nI 0), .int (nI (2 ^ k)), .ref ma, .ref mb, .int (nI rs), .ref lo, .ref hi, .ref kp, .ref ot, .ref su])), (lo, .inl (cJ, 511, .inr (.inl (fun j => lI (LW j))))), (hi, .inl (cJ, 511, .inr (.inl (fun j => lI (HW j)))))] → va_S A s.heap H locs → lv_has ls 8 [(7, .int (zm c9)), (5, .long (lI z)), (3, .long (lI ((prN q : Nat) : Int))), (2, .int (nI j)), (1, .int (nI q)), (0, .ref mo)] → W p l e (headSpec wsX4_rest { frames := 1, cells := 0, slots := 0, locals := 25 }).room s m ([.ref mo, .int (nI q), .int (nI j)] : List Value).toArray below meth c H locs 0 0 (MQ below (q_X4_rest_ok dC dI mo ma mb lo hi kp ot su k rs tv cJ LW HW q j  A) ([.ref mo, .int (nI q), .int (nI j)] : List Value).toArray s 0 0 A) (F0 m 58 ls []) := by
          intro fuel
          induction fuel with
          | zero => intro z c9; intros; omega
          | succ fuel ih_58 =>
            intro z c9 hz0 hz1 hc9 hinv hfu H locs ls hP hD hS hl
            rcases c9 with _ | v
            · refine lv_iload hx hb dX4_rest_58 (lv_at hl 0 rfl) ?_
              refine lv_if_lt (tgt := 91) hx hb dX4_rest_60 (by decide) (fun c_4 => ?_) (fun c_4 => ?_)
              · refine lv_lload hx hb dX4_rest_91 (lv_at hl 1 rfl) ?_
                refine lv_l2i (v := iI z) hx hb dX4_rest_93 (lI_i z) ?_
                have hP9 : va_P (dC, dI) vwCl [(mo, .inr (3, [.int (nI 0), .int (nI (2 ^ k)), .ref ma, .ref mb, .int (nI rs), .ref lo, .ref hi, .ref kp, .ref ot, .ref su])), (lo, .inl (cJ, 511, .inr (.inl (fun j => lI (LW j))))), (hi, .inl (cJ, 511, .inr (.inl (fun j => lI (HW j)))))] H := hP.sub [0, 1, 2] rfl
                have hD9 : va_D A [(mo, .inr (3, [.int (nI 0), .int (nI (2 ^ k)), .ref ma, .ref mb, .int (nI rs), .ref lo, .ref hi, .ref kp, .ref ot, .ref su])), (lo, .inl (cJ, 511, .inr (.inl (fun j => lI (LW j))))), (hi, .inl (cJ, 511, .inr (.inl (fun j => lI (HW j)))))] := hD.sub [0, 1, 2] (by decide) rfl
                exact W.iret (v := iI z) hx hb hr (fun tq9 ht hW => ⟨⟨iI z, (), rfl, by rw [hinv, Nat.sub_zero, Int.pow_zero, Int.ediv_one, zH, show (2 : Int) ^ 64 = 18446744073709551616 by decide, Int.mul_comm, Int.mul_ediv_add_emod], by rw [ht]; exact hP9, hD9⟩, hS.F ht⟩) hS.2.2 dX4_rest_94
              · exact absurd zm_0 c_4
            · rw [zm_s] at hl
              have tb := emod_rng (2 * z + LW j % 18446744073709551616 / 2 ^ v % 2) (show (0 : Int) < prN q by omega)
              have hbt := emod_rng (LW j % 18446744073709551616 / 2 ^ v) (show (0 : Int) < 2 by omega)
              refine lv_iload hx hb dX4_rest_58 (lv_at hl 0 rfl) ?_
              refine lv_if_lt (tgt := 91) hx hb dX4_rest_60 (by decide) (fun c_5 => ?_) (fun c_5 => ?_)
              · have c_5 : v < 0 := (nI_ltI (a := v) (b := 0) (by omega) (by omega)).mp c_5
                omega
              · have c_5 : ¬ (v < 0) := fun zq9 => c_5 ((nI_ltI (a := v) (b := 0) (by omega) (by omega)).mpr zq9)
                refine lv_ldc2 (own := RX4) (v := lI (2)) hx hb hown (hts (.constantLong RX4 77 (2)) (by decide +kernel)) dX4_rest_63 ?_
                refine lv_lload hx hb dX4_rest_66 (lv_at hl 1 rfl) ?_
                refine lv_lmul hx hb dX4_rest_68 ?_
                refine W.eq (congrArg (fun z => F0 m _ ls (.long z :: _)) (show lI 2 * lI z = lI (2 * z) from lI_mul 2 z)) ?_
                refine lv_aload_n hx hb dX4_rest_69 rfl (lv_at hl 5 rfl) ?_
                refine va_get (D := (dC, dI)) (ci := 3) (v := .ref lo) (C := RX4) (T := TX4) (N := 10) hx hb hts (by decide +kernel) hown hK hP 0 rfl rfl 5 (by decide) (hts (.fieldLink RX4 20 "ThreePrimesModel" "low" "[J") (by decide +kernel)) (fun _ h9 => h9) rfl dX4_rest_70 ?_
                refine lv_iload_n hx hb dX4_rest_73 rfl (lv_at hl 3 rfl) ?_
                refine va_lald hx hb hK hP 1 0 rfl rfl (vp_in_nI (by omega) (by omega)) dX4_rest_74 ?_
                refine W.eq (g2 := F0 m _ ls [.long (lI (LW j)), .long (lI (2 * z))]) (by rw [nI_clamp (by omega)]) ?_
                refine lv_iload hx hb dX4_rest_75 (lv_at hl 0 rfl) ?_
                refine lv_lushr (v := lI ((LW j) % 18446744073709551616 / 2 ^ v)) hx hb dX4_rest_77 (lI_bit (by omega)) ?_
                refine lv_lconst (v := lI 1) hx hb dX4_rest_78 (by decide) ?_
                refine lv_land hx hb dX4_rest_79 ?_
                refine W.eq (congrArg (fun z => F0 m _ ls (.long z :: _)) (show lI ((LW j) % 18446744073709551616 / 2 ^ v) &&& lI 1 = lI (((LW j) % 18446744073709551616 / 2 ^ v) % 2) from lI_and1)) ?_
                refine lv_ladd hx hb dX4_rest_80 ?_
                refine W.eq (congrArg (fun z => F0 m _ ls (.long z :: _)) (show lI (2 * z) + lI (((LW j) % 18446744073709551616 / 2 ^ v) % 2) = lI ((2 * z) + (((LW j) % 18446744073709551616 / 2 ^ v) % 2)) from lI_add (2 * z) (((LW j) % 18446744073709551616 / 2 ^ v) % 2))) ?_
                refine lv_lload_n hx hb dX4_rest_81 rfl (lv_at hl 2 rfl) ?_
                refine lv_lrem hx hb dX4_rest_82 (fun zq9 => absurd ((lI_eq (b := 0) (by omega) (by omega) (by omega) (by omega)).mp zq9) (by omega)) ?_
                refine W.eq (congrArg (fun z => F0 m _ ls (.long z :: _)) (show lI ((2 * z) + (((LW j) % 18446744073709551616 / 2 ^ v) % 2)) - lI ((2 * z) + (((LW j) % 18446744073709551616 / 2 ^ v) % 2)) / lI ((prN q : Nat) : Int) * lI ((prN q : Nat) : Int) = lI (((2 * z) + (((LW j) % 18446744073709551616 / 2 ^ v) % 2)) % ((prN q : Nat) : Int)) from lI_rem0 (by omega) (by omega) (by omega) (by omega))) ?_
                refine lv_lstore (lv' := [(5, .long (lI (((2 * z) + (((LW j) % 18446744073709551616 / 2 ^ v) % 2)) % ((prN q : Nat) : Int)))), (7, .int (nI v)), (3, .long (lI ((prN q : Nat) : Int))), (2, .int (nI j)), (1, .int (nI q)), (0, .ref mo)]) hx hb dX4_rest_83 hl (by decide) rfl (fun ls hl => ?_)
                refine lv_iinc (v := zm v) (lv' := [(7, .int (zm v)), (5, .long (lI (((2 * z) + (((LW j) % 18446744073709551616 / 2 ^ v) % 2)) % ((prN q : Nat) : Int)))), (3, .long (lI ((prN q : Nat) : Int))), (2, .int (nI j)), (1, .int (nI q)), (0, .ref mo)]) hx hb dX4_rest_85 hl (k := 1) rfl (rfl) (by decide) rfl (fun ls hl => ?_)
                refine lv_goto (tgt := 58) hx hb dX4_rest_88 (by decide) ?_
                exact ih_58  ((2 * z + LW j % 18446744073709551616 / 2 ^ v % 2) % ((prN q : Nat) : Int)) v (by omega) (by omega) (by omega) (by rw [hinv]; exact rest_step (by omega) hU.1) (by omega) _ _ _ (hP.sub [0, 1, 2] rfl) (hD.sub [0, 1, 2] (by decide) rfl) hS (lv_sub hl [0, 1, 2, 3, 4, 5] rfl)
        exact key_58 65 (HW j % ((prN q : Nat) : Int)) 64 (by omega) (by omega) (by omega) (by rw [Nat.sub_self, Int.pow_zero, Int.mul_one, u_div64 hU.1 hU.2, Int.add_zero]) (by omega) _ _ _ (hP.sub [2, 0, 1] rfl) (hD.sub [2, 0, 1] (by decide) rfl) hS (lv_sub hl [0, 1, 2, 5, 4, 3] rfl)
      · have c_3 : ¬ (0 ≤ 0) := fun zq9 => c_3 ((nI_leI (a := 0) (b := 0) (by omega) (by omega)).mpr zq9)
        omega
    · have c_2 : ¬ (0 = 0) := fun zq9 => c_2 ((nI_eq (a := 0) (b := 0) (by omega) (by omega)).mpr zq9)
      omega
  · have c_1 : ¬ (0 = 0) := fun zq9 => c_1 ((nI_eq (a := 0) (b := 0) (by omega) (by omega)).mpr zq9)
    omega

abbrev q_X4_rest_badP (dC : Nat → ClassId) (dI : Nat → Nat → Nat) (mo ma mb lo hi kp ot su k rs : Nat) (tv : Int32) (i v : Int32) (A : Nat → Prop) : Array Value → State → Outcome → State → Prop := va_Qi (fun (r : Int32) (u : Unit) => True) (fun u t => va_P (dC, dI) vwCl [(mo, .inr (3, [.int (nI 1), .int (nI (2 ^ k)), .ref ma, .ref mb, .int (nI rs), .ref lo, .ref hi, .ref kp, .ref ot, .ref su]))] t.heap ∧ va_D A [(mo, .inr (3, [.int (nI 1), .int (nI (2 ^ k)), .ref ma, .ref mb, .int (nI rs), .ref lo, .ref hi, .ref kp, .ref ot, .ref su]))]) A
set_option maxHeartbeats 4000000 in
set_option maxRecDepth 100000 in
theorem c_X4_rest_badP (l : Launch) (dC : Nat → ClassId) (dI : Nat → Nat → Nat) (mo ma mb lo hi kp ot su k rs : Nat) (tv : Int32) (i v : Int32) (sz : Nat) (hbad : i < 0 ∨ nI 3 ≤ i) : Met l yX4_rest wsX4_rest ({ frames := 1, cells := 0, slots := 0, locals := 20 }) (va_Pc [.ref mo, .int i, .int v] (fun U => U.heap.size = sz ∧ va_P (dC, dI) vwCl [(mo, .inr (3, [.int tv, .int (nI (2 ^ k)), .ref ma, .ref mb, .int (nI rs), .ref lo, .ref hi, .ref kp, .ref ot, .ref su]))] U.heap ∧ va_K (dC, dI) vwCl [] U ∧ va_D (fun _ => True) [(mo, .inr (3, [.int tv, .int (nI (2 ^ k)), .ref ma, .ref mb, .int (nI rs), .ref lo, .ref hi, .ref kp, .ref ot, .ref su]))])) (q_X4_rest_badP dC dI mo ma mb lo hi kp ot su k rs tv i v (va_A [(mo, .inr (3, [.int tv, .int (nI (2 ^ k)), .ref ma, .ref mb, .int (nI rs), .ref lo, .ref hi, .ref kp, .ref ot, .ref su]))] sz)) 0 0 (va_A [(mo, .inr (3, [.int tv, .int (nI (2 ^ k)), .ref ma, .ref mb, .int (nI rs), .ref lo, .ref hi, .ref kp, .ref ot, .ref su]))] sz) := by
  refine Met.ofW (cc := cX4_rest) (maxL := 8) (ret := (some .int)) (by decide) rfl ?_
  intro p e s m args below meth c s₁ B hml hv
  obtain ⟨rfl, hsz, hP, hK, hD0⟩ := hv
  have hx := B.exec
  have hb := B.bytes
  have hr := B.returns
  have hts := atoms_spec (ws := wsX4_rest) B.pre
  have hown : s.vm.findClass RX4 = some m.cls := findClass_of_methodNamed B.named
  have hlocks := B.notSynchronized
  subst hsz
  have hD := hD0.self (sz := s.heap.size)
  generalize hAe : va_A [(mo, .inr (3, [.int tv, .int (nI (2 ^ k)), .ref ma, .ref mb, .int (nI rs), .ref lo, .ref hi, .ref kp, .ref ot, .ref su]))] s.heap.size = A at hD ⊢
  have hA : ∀ q : Nat, s.heap.size ≤ q → A q := fun q h => by rw [← hAe]; exact Or.inr h
  have hS : va_S A s.heap s.heap [] := va_S.rf
  have hP : va_P (dC, dI) vwCl [(mo, .inr (3, [.int tv, .int (nI (2 ^ k)), .ref ma, .ref mb, .int (nI rs), .ref lo, .ref hi, .ref kp, .ref ot, .ref su]))] s.heap := hP
  have hl := lv_entry (([.ref mo, .int i, .int v] : List Value)) (n := 8) (Nat.le_of_ble_eq_true rfl)
  rw [lg_entry_eq]
  generalize (lg_sl (([.ref mo, .int i, .int v] : List Value)) ++ List.replicate (8 - (lg_sl (([.ref mo, .int i, .int v] : List Value))).length) Slot.unset).toArray = ls at hl ⊢
  have hl : lv_has ls 8 [(0, .ref mo), (1, .int i), (2, .int v)] := hl
  obtain ⟨H, hHe⟩ : ∃ H : Heap, H = s.heap := ⟨_, rfl⟩
  rw [← hHe] at hP
  have hS : va_S A s.heap H [] := by rw [hHe]; exact hS
  obtain ⟨locs, hlo⟩ : ∃ L : List Loc, L = [] := ⟨_, rfl⟩
  rw [← hlo] at hS ⊢
  rw [← hHe]
  refine lv_aload_n hx hb dX4_rest_0 rfl (lv_at hl 0 rfl) ?_
  refine lv_iload_n hx hb dX4_rest_1 rfl (lv_at hl 1 rfl) ?_
  have hPc := hP.sub (ws' := []) [] rfl
  have hDc := hD.sub (ws' := []) [] (by decide) rfl
  have hKc := hK.sub (tys' := []) [] rfl
  have hFc := va_free (wc := []) hD hS hA [] rfl
  refine va_calli (va_runS (As := [.int i]) (rest := [.ref mo]) ⟨hx, hb, hml, hown, hts⟩ (c_X4_noPrime_bad l dC dI i H.size hbad) (va_cwS 1 hts gX4_rest_X4_noPrime rfl rfl rfl (by decide +kernel) ⟨Nat.le_of_ble_eq_true rfl, Nat.le_of_ble_eq_true rfl⟩) ⟨fun a U g mk q => by obtain ⟨q0, q1, qP, qK, qD⟩ := q; exact ⟨q0, q1, qP, va_K.moved (u := U) (U := U.calling g mk a) (Vm.Alike.refl U.vm) qK, qD⟩, fun U hU hW => ⟨rfl, by rw [hU], by rw [hU]; exact hPc, va_K.moved hW.alike hKc, hDc.weaken (fun _ _ _ _ => trivial)⟩⟩ rfl rfl hl.1 rfl (lv_room (Nat.le_of_ble_eq_true rfl)) dX4_rest_2 ⟨Nat.le_of_ble_eq_true rfl, Nat.le_of_ble_eq_true rfl⟩) hS (fun q _ h => hFc q h) hFc (fun r9 u9 t9 H1 locs ht hvm hw hB hz1 hk1 hS => ?_)
  obtain ⟨hP1, hD1⟩ := hB
  rw [ht] at hP1
  try dsimp only at hw
  obtain ⟨hP, hD⟩ := va_join (wr := [(mo, .inr (3, [.int tv, .int (nI (2 ^ k)), .ref ma, .ref mb, .int (nI rs), .ref lo, .ref hi, .ref kp, .ref ot, .ref su]))]) (w1 := []) hP hD [] [0] rfl rfl (by decide) (by decide) hk1 hFc hP1 hD1
  generalize H1 = H at hP hS ⊢
  have hP : va_P (dC, dI) vwCl [(mo, .inr (3, [.int tv, .int (nI (2 ^ k)), .ref ma, .ref mb, .int (nI rs), .ref lo, .ref hi, .ref kp, .ref ot, .ref su]))] H := hP
  have hD : va_D A [(mo, .inr (3, [.int tv, .int (nI (2 ^ k)), .ref ma, .ref mb, .int (nI rs), .ref lo, .ref hi, .ref kp, .ref ot, .ref su]))] := hD
  clear hPc hDc hKc hFc hP1 hD1 hk1 hz1 hvm ht
  subst hw
  refine lv_if_eq (tgt := 12) hx hb dX4_rest_5 (by decide) (fun c_1 => ?_) (fun c_1 => ?_)
  · have c_1 : 1 = 0 := (nI_eq (a := 1) (b := 0) (by omega) (by omega)).mp c_1
    omega
  · have c_1 : ¬ (1 = 0) := fun zq9 => c_1 ((nI_eq (a := 1) (b := 0) (by omega) (by omega)).mpr zq9)
    refine lv_iconst (v := nI 1) hx hb dX4_rest_8 (by decide) ?_
    refine lv_goto (tgt := 25) hx hb dX4_rest_9 (by decide) ?_
    refine va_put (D := (dC, dI)) (ci := 3) (v := .int (nI 1)) (ty := .int) (C := RX4) (T := TX4) (N := 10) hx hb hts (by decide +kernel) tyX4 tyX4_ok nmX4 hown hK hP hD hS 0 rfl rfl 0 (by decide) (hts (.fieldLink RX4 36 "ThreePrimesModel" "thrown" "I") (by decide +kernel)) (fun _ h9 => h9) rfl (by decide +kernel) rfl rfl (Nat.le_of_ble_eq_true rfl) dX4_rest_25 (fun H locs hP hD hS => ?_)
    have hP : va_P (dC, dI) vwCl [(mo, .inr (3, [.int (nI 1), .int (nI (2 ^ k)), .ref ma, .ref mb, .int (nI rs), .ref lo, .ref hi, .ref kp, .ref ot, .ref su]))] H := hP
    have hD : va_D A [(mo, .inr (3, [.int (nI 1), .int (nI (2 ^ k)), .ref ma, .ref mb, .int (nI rs), .ref lo, .ref hi, .ref kp, .ref ot, .ref su]))] := hD
    refine lv_aload_n hx hb dX4_rest_28 rfl (lv_at hl 0 rfl) ?_
    refine va_get (D := (dC, dI)) (ci := 3) (v := .int (nI 1)) (C := RX4) (T := TX4) (N := 10) hx hb hts (by decide +kernel) hown hK hP 0 rfl rfl 0 (by decide) (hts (.fieldLink RX4 36 "ThreePrimesModel" "thrown" "I") (by decide +kernel)) (fun _ h9 => h9) rfl dX4_rest_29 ?_
    refine lv_if_le (tgt := 37) hx hb dX4_rest_32 (by decide) (fun c_2 => ?_) (fun c_2 => ?_)
    · have c_2 : 1 ≤ 0 := (nI_leI (a := 1) (b := 0) (by omega) (by omega)).mp c_2
      omega
    · have c_2 : ¬ (1 ≤ 0) := fun zq9 => c_2 ((nI_leI (a := 1) (b := 0) (by omega) (by omega)).mpr zq9)
      refine lv_iconst (v := nI 0) hx hb dX4_rest_35 (by decide) ?_
      have hP9 : va_P (dC, dI) vwCl [(mo, .inr (3, [.int (nI 1), .int (nI (2 ^ k)), .ref ma, .ref mb, .int (nI rs), .ref lo, .ref hi, .ref kp, .ref ot, .ref su]))] H := hP.sub [0] rfl
      have hD9 : va_D A [(mo, .inr (3, [.int (nI 1), .int (nI (2 ^ k)), .ref ma, .ref mb, .int (nI rs), .ref lo, .ref hi, .ref kp, .ref ot, .ref su]))] := hD.sub [0] (by decide) rfl
      exact W.iret (v := nI 0) hx hb hr (fun tq9 ht hW => ⟨⟨nI 0, (), rfl, trivial, by rw [ht]; exact hP9, hD9⟩, hS.F ht⟩) hS.2.2 dX4_rest_36

abbrev q_X4_rest_badI (dC : Nat → ClassId) (dI : Nat → Nat → Nat) (mo ma mb lo hi kp ot su k rs : Nat) (tv : Int32) (q : Nat) (i : Int32) (A : Nat → Prop) : Array Value → State → Outcome → State → Prop := va_Qi (fun (r : Int32) (u : Unit) => True) (fun u t => va_P (dC, dI) vwCl [(mo, .inr (3, [.int (nI 2), .int (nI (2 ^ k)), .ref ma, .ref mb, .int (nI rs), .ref lo, .ref hi, .ref kp, .ref ot, .ref su]))] t.heap ∧ va_D A [(mo, .inr (3, [.int (nI 2), .int (nI (2 ^ k)), .ref ma, .ref mb, .int (nI rs), .ref lo, .ref hi, .ref kp, .ref ot, .ref su]))]) A
set_option maxHeartbeats 4000000 in
set_option maxRecDepth 100000 in
theorem c_X4_rest_badI (l : Launch) (dC : Nat → ClassId) (dI : Nat → Nat → Nat) (mo ma mb lo hi kp ot su k rs : Nat) (tv : Int32) (q : Nat) (i : Int32) (sz : Nat) (zq : q < 3) (hbad : i < 0 ∨ nI rs ≤ i) : Met l yX4_rest wsX4_rest ({ frames := 1, cells := 0, slots := 0, locals := 21 }) (va_Pc [.ref mo, .int (nI q), .int i] (fun U => U.heap.size = sz ∧ va_P (dC, dI) vwCl [(mo, .inr (3, [.int tv, .int (nI (2 ^ k)), .ref ma, .ref mb, .int (nI rs), .ref lo, .ref hi, .ref kp, .ref ot, .ref su]))] U.heap ∧ va_K (dC, dI) vwCl [] U ∧ va_D (fun _ => True) [(mo, .inr (3, [.int tv, .int (nI (2 ^ k)), .ref ma, .ref mb, .int (nI rs), .ref lo, .ref hi, .ref kp, .ref ot, .ref su]))])) (q_X4_rest_badI dC dI mo ma mb lo hi kp ot su k rs tv q i (va_A [(mo, .inr (3, [.int tv, .int (nI (2 ^ k)), .ref ma, .ref mb, .int (nI rs), .ref lo, .ref hi, .ref kp, .ref ot, .ref su]))] sz)) 0 0 (va_A [(mo, .inr (3, [.int tv, .int (nI (2 ^ k)), .ref ma, .ref mb, .int (nI rs), .ref lo, .ref hi, .ref kp, .ref ot, .ref su]))] sz) := by
  refine Met.ofW (cc := cX4_rest) (maxL := 8) (ret := (some .int)) (by decide) rfl ?_
  intro p e s m args below meth c s₁ B hml hv
  obtain ⟨rfl, hsz, hP, hK, hD0⟩ := hv
  have hx := B.exec
  have hb := B.bytes
  have hr := B.returns
  have hts := atoms_spec (ws := wsX4_rest) B.pre
  have hown : s.vm.findClass RX4 = some m.cls := findClass_of_methodNamed B.named
  have hlocks := B.notSynchronized
  subst hsz
  have hD := hD0.self (sz := s.heap.size)
  generalize hAe : va_A [(mo, .inr (3, [.int tv, .int (nI (2 ^ k)), .ref ma, .ref mb, .int (nI rs), .ref lo, .ref hi, .ref kp, .ref ot, .ref su]))] s.heap.size = A at hD ⊢
  have hA : ∀ q : Nat, s.heap.size ≤ q → A q := fun q h => by rw [← hAe]; exact Or.inr h
  have hS : va_S A s.heap s.heap [] := va_S.rf
  have hP : va_P (dC, dI) vwCl [(mo, .inr (3, [.int tv, .int (nI (2 ^ k)), .ref ma, .ref mb, .int (nI rs), .ref lo, .ref hi, .ref kp, .ref ot, .ref su]))] s.heap := hP
  have hl := lv_entry (([.ref mo, .int (nI q), .int i] : List Value)) (n := 8) (Nat.le_of_ble_eq_true rfl)
  rw [lg_entry_eq]
  generalize (lg_sl (([.ref mo, .int (nI q), .int i] : List Value)) ++ List.replicate (8 - (lg_sl (([.ref mo, .int (nI q), .int i] : List Value))).length) Slot.unset).toArray = ls at hl ⊢
  have hl : lv_has ls 8 [(0, .ref mo), (1, .int (nI q)), (2, .int i)] := hl
  obtain ⟨H, hHe⟩ : ∃ H : Heap, H = s.heap := ⟨_, rfl⟩
  rw [← hHe] at hP
  have hS : va_S A s.heap H [] := by rw [hHe]; exact hS
  obtain ⟨locs, hlo⟩ : ∃ L : List Loc, L = [] := ⟨_, rfl⟩
  rw [← hlo] at hS ⊢
  rw [← hHe]
  refine lv_aload_n hx hb dX4_rest_0 rfl (lv_at hl 0 rfl) ?_
  refine lv_iload_n hx hb dX4_rest_1 rfl (lv_at hl 1 rfl) ?_
  have hPc := hP.sub (ws' := []) [] rfl
  have hDc := hD.sub (ws' := []) [] (by decide) rfl
  have hKc := hK.sub (tys' := []) [] rfl
  have hFc := va_free (wc := []) hD hS hA [] rfl
  refine va_calli (va_runS (As := [.int (nI q)]) (rest := [.ref mo]) ⟨hx, hb, hml, hown, hts⟩ (c_X4_noPrime_ok l dC dI q H.size (by omega)) (va_cwS 1 hts gX4_rest_X4_noPrime rfl rfl rfl (by decide +kernel) ⟨Nat.le_of_ble_eq_true rfl, Nat.le_of_ble_eq_true rfl⟩) ⟨fun a U g mk q => by obtain ⟨q0, q1, qP, qK, qD⟩ := q; exact ⟨q0, q1, qP, va_K.moved (u := U) (U := U.calling g mk a) (Vm.Alike.refl U.vm) qK, qD⟩, fun U hU hW => ⟨rfl, by rw [hU], by rw [hU]; exact hPc, va_K.moved hW.alike hKc, hDc.weaken (fun _ _ _ _ => trivial)⟩⟩ rfl rfl hl.1 rfl (lv_room (Nat.le_of_ble_eq_true rfl)) dX4_rest_2 ⟨Nat.le_of_ble_eq_true rfl, Nat.le_of_ble_eq_true rfl⟩) hS (fun q _ h => hFc q h) hFc (fun r9 u9 t9 H1 locs ht hvm hw hB hz1 hk1 hS => ?_)
  obtain ⟨hP1, hD1⟩ := hB
  rw [ht] at hP1
  try dsimp only at hw
  obtain ⟨hP, hD⟩ := va_join (wr := [(mo, .inr (3, [.int tv, .int (nI (2 ^ k)), .ref ma, .ref mb, .int (nI rs), .ref lo, .ref hi, .ref kp, .ref ot, .ref su]))]) (w1 := []) hP hD [] [0] rfl rfl (by decide) (by decide) hk1 hFc hP1 hD1
  generalize H1 = H at hP hS ⊢
  have hP : va_P (dC, dI) vwCl [(mo, .inr (3, [.int tv, .int (nI (2 ^ k)), .ref ma, .ref mb, .int (nI rs), .ref lo, .ref hi, .ref kp, .ref ot, .ref su]))] H := hP
  have hD : va_D A [(mo, .inr (3, [.int tv, .int (nI (2 ^ k)), .ref ma, .ref mb, .int (nI rs), .ref lo, .ref hi, .ref kp, .ref ot, .ref su]))] := hD
  clear hPc hDc hKc hFc hP1 hD1 hk1 hz1 hvm ht
  subst hw
  refine lv_if_eq (tgt := 12) hx hb dX4_rest_5 (by decide) (fun c_1 => ?_) (fun c_1 => ?_)
  · have c_1 : 0 = 0 := (nI_eq (a := 0) (b := 0) (by omega) (by omega)).mp c_1
    refine lv_aload_n hx hb dX4_rest_12 rfl (lv_at hl 0 rfl) ?_
    refine lv_iload_n hx hb dX4_rest_13 rfl (lv_at hl 2 rfl) ?_
    have hPc := hP.sub (ws' := [(mo, .inr (3, [.int tv, .int (nI (2 ^ k)), .ref ma, .ref mb, .int (nI rs), .ref lo, .ref hi, .ref kp, .ref ot, .ref su]))]) [0] rfl
    have hDc := hD.sub (ws' := [(mo, .inr (3, [.int tv, .int (nI (2 ^ k)), .ref ma, .ref mb, .int (nI rs), .ref lo, .ref hi, .ref kp, .ref ot, .ref su]))]) [0] (by decide) rfl
    have hKc := hK.sub (tys' := []) [] rfl
    have hFc := va_free (wc := [(mo, .inr (3, [.int tv, .int (nI (2 ^ k)), .ref ma, .ref mb, .int (nI rs), .ref lo, .ref hi, .ref kp, .ref ot, .ref su]))]) hD hS hA [0] rfl
    refine va_calli (va_runV (As := [.int i]) (rest := [.ref mo]) ⟨hx, hb, hml, hown, hts⟩ (c_X4_noResult_bad l dC dI mo ma mb lo hi kp ot su k rs tv i H.size hbad) (cwV 1 hts gX4_rest_X4_noResult rfl rfl rfl (by decide +kernel) ⟨Nat.le_of_ble_eq_true rfl, Nat.le_of_ble_eq_true rfl⟩) ⟨fun a U g mk q => by obtain ⟨q0, q1, qP, qK, qD⟩ := q; exact ⟨q0, q1, qP, va_K.moved (u := U) (U := U.calling g mk a) (Vm.Alike.refl U.vm) qK, qD⟩, va_recv hKc hPc (ci := 3) (q0 := 0) rfl rfl, fun U hU hW => ⟨rfl, by rw [hU], by rw [hU]; exact hPc, va_K.moved hW.alike hKc, hDc.weaken (fun _ _ _ _ => trivial)⟩⟩ rfl rfl hl.1 rfl (lv_room (Nat.le_of_ble_eq_true rfl)) dX4_rest_14 ⟨Nat.le_of_ble_eq_true rfl, Nat.le_of_ble_eq_true rfl⟩) hS (fun q _ h => hFc q h) hFc (fun r9 u9 t9 H1 locs ht hvm hw hB hz1 hk1 hS => ?_)
    obtain ⟨hP1, hD1⟩ := hB
    rw [ht] at hP1
    try dsimp only at hw
    obtain ⟨hP, hD⟩ := va_join (wr := []) (w1 := [(mo, .inr (3, [.int tv, .int (nI (2 ^ k)), .ref ma, .ref mb, .int (nI rs), .ref lo, .ref hi, .ref kp, .ref ot, .ref su]))]) hP hD [0] [] rfl rfl (by decide) (by decide) hk1 hFc hP1 hD1
    generalize H1 = H at hP hS ⊢
    have hP : va_P (dC, dI) vwCl [(mo, .inr (3, [.int tv, .int (nI (2 ^ k)), .ref ma, .ref mb, .int (nI rs), .ref lo, .ref hi, .ref kp, .ref ot, .ref su]))] H := hP
    have hD : va_D A [(mo, .inr (3, [.int tv, .int (nI (2 ^ k)), .ref ma, .ref mb, .int (nI rs), .ref lo, .ref hi, .ref kp, .ref ot, .ref su]))] := hD
    clear hPc hDc hKc hFc hP1 hD1 hk1 hz1 hvm ht
    subst hw
    refine lv_if_eq (tgt := 24) hx hb dX4_rest_17 (by decide) (fun c_2 => ?_) (fun c_2 => ?_)
    · have c_2 : 1 = 0 := (nI_eq (a := 1) (b := 0) (by omega) (by omega)).mp c_2
      omega
    · have c_2 : ¬ (1 = 0) := fun zq9 => c_2 ((nI_eq (a := 1) (b := 0) (by omega) (by omega)).mpr zq9)
      refine lv_iconst (v := nI 2) hx hb dX4_rest_20 (by decide) ?_
      refine lv_goto (tgt := 25) hx hb dX4_rest_21 (by decide) ?_
      refine va_put (D := (dC, dI)) (ci := 3) (v := .int (nI 2)) (ty := .int) (C := RX4) (T := TX4) (N := 10) hx hb hts (by decide +kernel) tyX4 tyX4_ok nmX4 hown hK hP hD hS 0 rfl rfl 0 (by decide) (hts (.fieldLink RX4 36 "ThreePrimesModel" "thrown" "I") (by decide +kernel)) (fun _ h9 => h9) rfl (by decide +kernel) rfl rfl (Nat.le_of_ble_eq_true rfl) dX4_rest_25 (fun H locs hP hD hS => ?_)
      have hP : va_P (dC, dI) vwCl [(mo, .inr (3, [.int (nI 2), .int (nI (2 ^ k)), .ref ma, .ref mb, .int (nI rs), .ref lo, .ref hi, .ref kp, .ref ot, .ref su]))] H := hP
      have hD : va_D A [(mo, .inr (3, [.int (nI 2), .int (nI (2 ^ k)), .ref ma, .ref mb, .int (nI rs), .ref lo, .ref hi, .ref kp, .ref ot, .ref su]))] := hD
      refine lv_aload_n hx hb dX4_rest_28 rfl (lv_at hl 0 rfl) ?_
      refine va_get (D := (dC, dI)) (ci := 3) (v := .int (nI 2)) (C := RX4) (T := TX4) (N := 10) hx hb hts (by decide +kernel) hown hK hP 0 rfl rfl 0 (by decide) (hts (.fieldLink RX4 36 "ThreePrimesModel" "thrown" "I") (by decide +kernel)) (fun _ h9 => h9) rfl dX4_rest_29 ?_
      refine lv_if_le (tgt := 37) hx hb dX4_rest_32 (by decide) (fun c_3 => ?_) (fun c_3 => ?_)
      · have c_3 : 2 ≤ 0 := (nI_leI (a := 2) (b := 0) (by omega) (by omega)).mp c_3
        omega
      · have c_3 : ¬ (2 ≤ 0) := fun zq9 => c_3 ((nI_leI (a := 2) (b := 0) (by omega) (by omega)).mpr zq9)
        refine lv_iconst (v := nI 0) hx hb dX4_rest_35 (by decide) ?_
        have hP9 : va_P (dC, dI) vwCl [(mo, .inr (3, [.int (nI 2), .int (nI (2 ^ k)), .ref ma, .ref mb, .int (nI rs), .ref lo, .ref hi, .ref kp, .ref ot, .ref su]))] H := hP.sub [0] rfl
        have hD9 : va_D A [(mo, .inr (3, [.int (nI 2), .int (nI (2 ^ k)), .ref ma, .ref mb, .int (nI rs), .ref lo, .ref hi, .ref kp, .ref ot, .ref su]))] := hD.sub [0] (by decide) rfl
        exact W.iret (v := nI 0) hx hb hr (fun tq9 ht hW => ⟨⟨nI 0, (), rfl, trivial, by rw [ht]; exact hP9, hD9⟩, hS.F ht⟩) hS.2.2 dX4_rest_36
  · have c_1 : ¬ (0 = 0) := fun zq9 => c_1 ((nI_eq (a := 0) (b := 0) (by omega) (by omega)).mpr zq9)
    omega

abbrev q_X4_rootOf (dC : Nat → ClassId) (dI : Nat → Nat → Nat) (mo ma mb lo hi kp ot su k rs : Nat) (tv : Int32) (q : Nat) (A : Nat → Prop) : Array Value → State → Outcome → State → Prop := va_Ql (fun (r : Int64) (u : Unit) => r = lI (frW k (prN q))) (fun u t => va_P (dC, dI) vwCl [(mo, .inr (3, [.int tv, .int (nI (2 ^ k)), .ref ma, .ref mb, .int (nI rs), .ref lo, .ref hi, .ref kp, .ref ot, .ref su]))] t.heap ∧ va_D A [(mo, .inr (3, [.int tv, .int (nI (2 ^ k)), .ref ma, .ref mb, .int (nI rs), .ref lo, .ref hi, .ref kp, .ref ot, .ref su]))]) A
set_option maxHeartbeats 4000000 in
set_option maxRecDepth 100000 in
theorem c_X4_rootOf (l : Launch) (dC : Nat → ClassId) (dI : Nat → Nat → Nat) (mo ma mb lo hi kp ot su k rs : Nat) (tv : Int32) (q : Nat) (sz : Nat) (zk1 : 1 ≤ k) (zk : k ≤ 8) (zq : q < 3) : Met l yX4_rootOf wsX4_rootOf ({ frames := 1, cells := 0, slots := 0, locals := 31 }) (va_Pc [.ref mo, .int (nI q)] (fun U => U.heap.size = sz ∧ va_P (dC, dI) vwCl [(mo, .inr (3, [.int tv, .int (nI (2 ^ k)), .ref ma, .ref mb, .int (nI rs), .ref lo, .ref hi, .ref kp, .ref ot, .ref su]))] U.heap ∧ va_K (dC, dI) vwCl [] U ∧ va_D (fun _ => True) [(mo, .inr (3, [.int tv, .int (nI (2 ^ k)), .ref ma, .ref mb, .int (nI rs), .ref lo, .ref hi, .ref kp, .ref ot, .ref su]))])) (q_X4_rootOf dC dI mo ma mb lo hi kp ot su k rs tv q (va_A [(mo, .inr (3, [.int tv, .int (nI (2 ^ k)), .ref ma, .ref mb, .int (nI rs), .ref lo, .ref hi, .ref kp, .ref ot, .ref su]))] sz)) 0 0 (va_A [(mo, .inr (3, [.int tv, .int (nI (2 ^ k)), .ref ma, .ref mb, .int (nI rs), .ref lo, .ref hi, .ref kp, .ref ot, .ref su]))] sz) := by
  refine Met.ofW (cc := cX4_rootOf) (maxL := 4) (ret := (some .long)) (by decide) rfl ?_
  intro p e s m args below meth c s₁ B hml hv
  obtain ⟨rfl, hsz, hP, hK, hD0⟩ := hv
  have hx := B.exec
  have hb := B.bytes
  have hr := B.returns
  have hts := atoms_spec (ws := wsX4_rootOf) B.pre
  have hown : s.vm.findClass RX4 = some m.cls := findClass_of_methodNamed B.named
  have hlocks := B.notSynchronized
  subst hsz
  have hD := hD0.self (sz := s.heap.size)
  generalize hAe : va_A [(mo, .inr (3, [.int tv, .int (nI (2 ^ k)), .ref ma, .ref mb, .int (nI rs), .ref lo, .ref hi, .ref kp, .ref ot, .ref su]))] s.heap.size = A at hD ⊢
  have hA : ∀ q : Nat, s.heap.size ≤ q → A q := fun q h => by rw [← hAe]; exact Or.inr h
  have hS : va_S A s.heap s.heap [] := va_S.rf
  have hP : va_P (dC, dI) vwCl [(mo, .inr (3, [.int tv, .int (nI (2 ^ k)), .ref ma, .ref mb, .int (nI rs), .ref lo, .ref hi, .ref kp, .ref ot, .ref su]))] s.heap := hP
  have hl := lv_entry (([.ref mo, .int (nI q)] : List Value)) (n := 4) (Nat.le_of_ble_eq_true rfl)
  rw [lg_entry_eq]
  generalize (lg_sl (([.ref mo, .int (nI q)] : List Value)) ++ List.replicate (4 - (lg_sl (([.ref mo, .int (nI q)] : List Value))).length) Slot.unset).toArray = ls at hl ⊢
  have hl : lv_has ls 4 [(0, .ref mo), (1, .int (nI q))] := hl
  obtain ⟨H, hHe⟩ : ∃ H : Heap, H = s.heap := ⟨_, rfl⟩
  rw [← hHe] at hP
  have hS : va_S A s.heap H [] := by rw [hHe]; exact hS
  obtain ⟨locs, hlo⟩ : ∃ L : List Loc, L = [] := ⟨_, rfl⟩
  rw [← hlo] at hS ⊢
  rw [← hHe]
  have hpk := pw8 zk
  have hpr := prN_b q
  have hdl := Nat.div_le_self (prN q - 1) (2 ^ k)
  refine lv_iload_n hx hb dX4_rootOf_0 rfl (lv_at hl 1 rfl) ?_
  have hPc := hP.sub (ws' := []) [] rfl
  have hDc := hD.sub (ws' := []) [] (by decide) rfl
  have hKc := hK.sub (tys' := []) [] rfl
  have hFc := va_free (wc := []) hD hS hA [] rfl
  refine va_calll (va_runS (As := [.int (nI q)]) (rest := []) ⟨hx, hb, hml, hown, hts⟩ (c_X4_prime l dC dI q H.size (by omega)) (va_cwS 1 hts gX4_rootOf_X4_prime rfl rfl rfl (by decide +kernel) ⟨Nat.le_of_ble_eq_true rfl, Nat.le_of_ble_eq_true rfl⟩) ⟨fun a U g mk q => by obtain ⟨q0, q1, qP, qK, qD⟩ := q; exact ⟨q0, q1, qP, va_K.moved (u := U) (U := U.calling g mk a) (Vm.Alike.refl U.vm) qK, qD⟩, fun U hU hW => ⟨rfl, by rw [hU], by rw [hU]; exact hPc, va_K.moved hW.alike hKc, hDc.weaken (fun _ _ _ _ => trivial)⟩⟩ rfl rfl hl.1 rfl (lv_room (Nat.le_of_ble_eq_true rfl)) dX4_rootOf_1 ⟨Nat.le_of_ble_eq_true rfl, Nat.le_of_ble_eq_true rfl⟩) hS (fun q _ h => hFc q h) hFc (fun r9 u9 t9 H1 locs ht hvm hw hB hz1 hk1 hS => ?_)
  obtain ⟨hP1, hD1⟩ := hB
  rw [ht] at hP1
  try dsimp only at hw
  obtain ⟨hP, hD⟩ := va_join (wr := [(mo, .inr (3, [.int tv, .int (nI (2 ^ k)), .ref ma, .ref mb, .int (nI rs), .ref lo, .ref hi, .ref kp, .ref ot, .ref su]))]) (w1 := []) hP hD [] [0] rfl rfl (by decide) (by decide) hk1 hFc hP1 hD1
  generalize H1 = H at hP hS ⊢
  have hP : va_P (dC, dI) vwCl [(mo, .inr (3, [.int tv, .int (nI (2 ^ k)), .ref ma, .ref mb, .int (nI rs), .ref lo, .ref hi, .ref kp, .ref ot, .ref su]))] H := hP
  have hD : va_D A [(mo, .inr (3, [.int tv, .int (nI (2 ^ k)), .ref ma, .ref mb, .int (nI rs), .ref lo, .ref hi, .ref kp, .ref ot, .ref su]))] := hD
  clear hPc hDc hKc hFc hP1 hD1 hk1 hz1 hvm ht
  subst hw
  refine lv_lstore_n (lv' := [(2, .long (lI ((prN q : Nat) : Int))), (0, .ref mo), (1, .int (nI q))]) hx hb dX4_rootOf_4 rfl hl (by decide) rfl (fun ls hl => ?_)
  refine lv_ldc2 (own := RX4) (v := lI (3)) hx hb hown (hts (.constantLong RX4 79 (3)) (by decide +kernel)) dX4_rootOf_5 ?_
  refine lv_lload_n hx hb dX4_rootOf_8 rfl (lv_at hl 0 rfl) ?_
  refine lv_lconst (v := lI 1) hx hb dX4_rootOf_9 (by decide) ?_
  refine lv_lsub hx hb dX4_rootOf_10 ?_
  refine W.eq (congrArg (fun z => F0 m _ ls (.long z :: _)) (show lI ((prN q : Nat) : Int) - lI 1 = lI (((prN q : Nat) : Int) - 1) from lI_sub ((prN q : Nat) : Int) 1)) ?_
  refine lv_aload_n hx hb dX4_rootOf_11 rfl (lv_at hl 1 rfl) ?_
  refine va_get (D := (dC, dI)) (ci := 3) (v := .int (nI (2 ^ k))) (C := RX4) (T := TX4) (N := 10) hx hb hts (by decide +kernel) hown hK hP 0 rfl rfl 1 (by decide) (hts (.fieldLink RX4 7 "ThreePrimesModel" "n" "I") (by decide +kernel)) (fun _ h9 => h9) rfl dX4_rootOf_12 ?_
  refine lv_i2l (v := lI ((2 ^ k : Nat) : Int)) hx hb dX4_rootOf_15 (nI_lI (by omega)) ?_
  refine lv_ldiv hx hb dX4_rootOf_16 (fun zq9 => absurd ((lI_eq (b := 0) (by omega) (by omega) (by omega) (by omega)).mp zq9) (by omega)) ?_
  refine W.eq (congrArg (fun z => F0 m _ ls (.long z :: _)) (show lI (((prN q : Nat) : Int) - 1) / lI ((2 ^ k : Nat) : Int) = lI ((((prN q : Nat) : Int) - 1) / ((2 ^ k : Nat) : Int)) from lI_div (by omega) (by omega) (by omega) (by omega))) ?_
  refine W.eq (congrArg (fun z => F0 m _ ls (.long z :: _)) (show lI ((((prN q : Nat) : Int) - 1) / ((2 ^ k : Nat) : Int)) = lI (((prN q - 1) / 2 ^ k : Nat) : Int) from congrArg lI (by rw [Int.natCast_ediv]; congr 1; omega))) ?_
  refine lv_lload_n hx hb dX4_rootOf_17 rfl (lv_at hl 0 rfl) ?_
  have hPc := hP.sub (ws' := []) [] rfl
  have hDc := hD.sub (ws' := []) [] (by decide) rfl
  have hKc := hK.sub (tys' := []) [] rfl
  have hFc := va_free (wc := []) hD hS hA [] rfl
  refine va_calll (va_runS (As := [.long (lI 3), .long (lI (((prN q - 1) / 2 ^ k : Nat) : Int)), .long (lI ((prN q : Nat) : Int))]) (rest := []) ⟨hx, hb, hml, hown, hts⟩ (c_X4_raised l dC dI 3 ((prN q - 1) / 2 ^ k) (prN q) H.size (by omega) (by omega) (by omega) (by omega) (by omega)) (va_cwS 3 hts gX4_rootOf_X4_raised rfl rfl rfl (by decide +kernel) ⟨Nat.le_of_ble_eq_true rfl, Nat.le_of_ble_eq_true rfl⟩) ⟨fun a U g mk q => by obtain ⟨q0, q1, qP, qK, qD⟩ := q; exact ⟨q0, q1, qP, va_K.moved (u := U) (U := U.calling g mk a) (Vm.Alike.refl U.vm) qK, qD⟩, fun U hU hW => ⟨rfl, by rw [hU], by rw [hU]; exact hPc, va_K.moved hW.alike hKc, hDc.weaken (fun _ _ _ _ => trivial)⟩⟩ rfl rfl hl.1 rfl (lv_room (Nat.le_of_ble_eq_true rfl)) dX4_rootOf_18 ⟨Nat.le_of_ble_eq_true rfl, Nat.le_of_ble_eq_true rfl⟩) hS (fun q _ h => hFc q h) hFc (fun r9 u9 t9 H1 locs ht hvm hw hB hz1 hk1 hS => ?_)
  obtain ⟨hP1, hD1⟩ := hB
  rw [ht] at hP1
  try dsimp only at hw
  obtain ⟨hP, hD⟩ := va_join (wr := [(mo, .inr (3, [.int tv, .int (nI (2 ^ k)), .ref ma, .ref mb, .int (nI rs), .ref lo, .ref hi, .ref kp, .ref ot, .ref su]))]) (w1 := []) hP hD [] [0] rfl rfl (by decide) (by decide) hk1 hFc hP1 hD1
  generalize H1 = H at hP hS ⊢
  have hP : va_P (dC, dI) vwCl [(mo, .inr (3, [.int tv, .int (nI (2 ^ k)), .ref ma, .ref mb, .int (nI rs), .ref lo, .ref hi, .ref kp, .ref ot, .ref su]))] H := hP
  have hD : va_D A [(mo, .inr (3, [.int tv, .int (nI (2 ^ k)), .ref ma, .ref mb, .int (nI rs), .ref lo, .ref hi, .ref kp, .ref ot, .ref su]))] := hD
  clear hPc hDc hKc hFc hP1 hD1 hk1 hz1 hvm ht
  subst hw
  have hP9 : va_P (dC, dI) vwCl [(mo, .inr (3, [.int tv, .int (nI (2 ^ k)), .ref ma, .ref mb, .int (nI rs), .ref lo, .ref hi, .ref kp, .ref ot, .ref su]))] H := hP.sub [0] rfl
  have hD9 : va_D A [(mo, .inr (3, [.int tv, .int (nI (2 ^ k)), .ref ma, .ref mb, .int (nI rs), .ref lo, .ref hi, .ref kp, .ref ot, .ref su]))] := hD.sub [0] (by decide) rfl
  exact W.lret (v := lI (3 ^ ((prN q - 1) / 2 ^ k) % ((prN q : Nat) : Int))) hx hb hr (fun tq9 ht hW => ⟨⟨lI (3 ^ ((prN q - 1) / 2 ^ k) % ((prN q : Nat) : Int)), (), rfl, rfl, by rw [ht]; exact hP9, hD9⟩, hS.F ht⟩) hS.2.2 dX4_rootOf_21

abbrev q_X4_sumOf_0 (dC : Nat → ClassId) (dI : Nat → Nat → Nat) (mo ma mb lo hi kp ot su k rs : Nat) (tv : Int32) (cI : ClassId) (fa : Nat → Int32) (q j : Nat) (A : Nat → Prop) : Array Value → State → Outcome → State → Prop := va_Ql (fun (r : Int64) (u : Unit) => r = lI (psm fa (frW k (prN q) ^ j % (prN q : Int)) (2 ^ k) % (prN q : Int))) (fun u t => va_P (dC, dI) vwCl [(mo, .inr (3, [.int tv, .int (nI (2 ^ k)), .ref ma, .ref mb, .int (nI rs), .ref lo, .ref hi, .ref kp, .ref ot, .ref su])), (ma, .inl (cI, 256, .inl fa))] t.heap ∧ va_D A [(mo, .inr (3, [.int tv, .int (nI (2 ^ k)), .ref ma, .ref mb, .int (nI rs), .ref lo, .ref hi, .ref kp, .ref ot, .ref su])), (ma, .inl (cI, 256, .inl fa))]) A
set_option maxHeartbeats 4000000 in
set_option maxRecDepth 100000 in
theorem c_X4_sumOf_0 (l : Launch) (dC : Nat → ClassId) (dI : Nat → Nat → Nat) (mo ma mb lo hi kp ot su k rs : Nat) (tv : Int32) (cI : ClassId) (fa : Nat → Int32) (q j : Nat) (sz : Nat) (zk1 : 1 ≤ k) (zk : k ≤ 8) (zq : q < 3) (zj : j < 2 ^ k) : Met l yX4_sumOf wsX4_sumOf ({ frames := 2, cells := 0, slots := 0, locals := 54 }) (va_Pc [.ref mo, .int (nI q), .int (nI j), .int (nI 0)] (fun U => U.heap.size = sz ∧ va_P (dC, dI) vwCl [(mo, .inr (3, [.int tv, .int (nI (2 ^ k)), .ref ma, .ref mb, .int (nI rs), .ref lo, .ref hi, .ref kp, .ref ot, .ref su])), (ma, .inl (cI, 256, .inl fa))] U.heap ∧ va_K (dC, dI) vwCl [(cI, .int)] U ∧ va_D (fun _ => True) [(mo, .inr (3, [.int tv, .int (nI (2 ^ k)), .ref ma, .ref mb, .int (nI rs), .ref lo, .ref hi, .ref kp, .ref ot, .ref su])), (ma, .inl (cI, 256, .inl fa))])) (q_X4_sumOf_0 dC dI mo ma mb lo hi kp ot su k rs tv cI fa q j (va_A [(mo, .inr (3, [.int tv, .int (nI (2 ^ k)), .ref ma, .ref mb, .int (nI rs), .ref lo, .ref hi, .ref kp, .ref ot, .ref su])), (ma, .inl (cI, 256, .inl fa))] sz)) 0 0 (va_A [(mo, .inr (3, [.int tv, .int (nI (2 ^ k)), .ref ma, .ref mb, .int (nI rs), .ref lo, .ref hi, .ref kp, .ref ot, .ref su])), (ma, .inl (cI, 256, .inl fa))] sz) := by
  refine Met.ofW (cc := cX4_sumOf) (maxL := 13) (ret := (some .long)) (by decide) rfl ?_
  intro p e s m args below meth c s₁ B hml hv
  obtain ⟨rfl, hsz, hP, hK, hD0⟩ := hv
  have hx := B.exec
  have hb := B.bytes
  have hr := B.returns
  have hts := atoms_spec (ws := wsX4_sumOf) B.pre
  have hown : s.vm.findClass RX4 = some m.cls := findClass_of_methodNamed B.named
  have hlocks := B.notSynchronized
  subst hsz
  have hD := hD0.self (sz := s.heap.size)
  generalize hAe : va_A [(mo, .inr (3, [.int tv, .int (nI (2 ^ k)), .ref ma, .ref mb, .int (nI rs), .ref lo, .ref hi, .ref kp, .ref ot, .ref su])), (ma, .inl (cI, 256, .inl fa))] s.heap.size = A at hD ⊢
  have hA : ∀ q : Nat, s.heap.size ≤ q → A q := fun q h => by rw [← hAe]; exact Or.inr h
  have hS : va_S A s.heap s.heap [] := va_S.rf
  have hP : va_P (dC, dI) vwCl [(mo, .inr (3, [.int tv, .int (nI (2 ^ k)), .ref ma, .ref mb, .int (nI rs), .ref lo, .ref hi, .ref kp, .ref ot, .ref su])), (ma, .inl (cI, 256, .inl fa))] s.heap := hP
  have hl := lv_entry (([.ref mo, .int (nI q), .int (nI j), .int (nI 0)] : List Value)) (n := 13) (Nat.le_of_ble_eq_true rfl)
  rw [lg_entry_eq]
  generalize (lg_sl (([.ref mo, .int (nI q), .int (nI j), .int (nI 0)] : List Value)) ++ List.replicate (13 - (lg_sl (([.ref mo, .int (nI q), .int (nI j), .int (nI 0)] : List Value))).length) Slot.unset).toArray = ls at hl ⊢
  have hl : lv_has ls 13 [(0, .ref mo), (1, .int (nI q)), (2, .int (nI j)), (3, .int (nI 0))] := hl
  obtain ⟨H, hHe⟩ : ∃ H : Heap, H = s.heap := ⟨_, rfl⟩
  rw [← hHe] at hP
  have hS : va_S A s.heap H [] := by rw [hHe]; exact hS
  obtain ⟨locs, hlo⟩ : ∃ L : List Loc, L = [] := ⟨_, rfl⟩
  rw [← hlo] at hS ⊢
  rw [← hHe]
  have hpk := pw8 zk
  have hpr := prN_b q
  have hwr := emod_rng (3 ^ ((prN q - 1) / 2 ^ k)) (show (0 : Int) < prN q by omega)
  have hwf : 3 ^ ((prN q - 1) / 2 ^ k) % (prN q : Int) = frW k (prN q) := rfl
  rw [hwf] at hwr
  have hml2 := Nat.mod_lt (2 ^ k - j) (show 0 < 2 ^ k by omega)
  obtain ⟨x, hx9⟩ : ∃ x : Int, x = (frW k (prN q) ^ j % (prN q : Int)) := ⟨_, rfl⟩
  have hxr := emod_rng (frW k (prN q) ^ j) (show (0 : Int) < prN q by omega)
  rw [← hx9] at hxr
  refine lv_iload_n hx hb dX4_sumOf_0 rfl (lv_at hl 1 rfl) ?_
  have hPc := hP.sub (ws' := []) [] rfl
  have hDc := hD.sub (ws' := []) [] (by decide) rfl
  have hKc := hK.sub (tys' := []) [] rfl
  have hFc := va_free (wc := []) hD hS hA [] rfl
  refine va_calll (va_runS (As := [.int (nI q)]) (rest := []) ⟨hx, hb, hml, hown, hts⟩ (c_X4_prime l dC dI q H.size (by omega)) (va_cwS 1 hts gX4_sumOf_X4_prime rfl rfl rfl (by decide +kernel) ⟨Nat.le_of_ble_eq_true rfl, Nat.le_of_ble_eq_true rfl⟩) ⟨fun a U g mk q => by obtain ⟨q0, q1, qP, qK, qD⟩ := q; exact ⟨q0, q1, qP, va_K.moved (u := U) (U := U.calling g mk a) (Vm.Alike.refl U.vm) qK, qD⟩, fun U hU hW => ⟨rfl, by rw [hU], by rw [hU]; exact hPc, va_K.moved hW.alike hKc, hDc.weaken (fun _ _ _ _ => trivial)⟩⟩ rfl rfl hl.1 rfl (lv_room (Nat.le_of_ble_eq_true rfl)) dX4_sumOf_1 ⟨Nat.le_of_ble_eq_true rfl, Nat.le_of_ble_eq_true rfl⟩) hS (fun q _ h => hFc q h) hFc (fun r9 u9 t9 H1 locs ht hvm hw hB hz1 hk1 hS => ?_)
  obtain ⟨hP1, hD1⟩ := hB
  rw [ht] at hP1
  try dsimp only at hw
  obtain ⟨hP, hD⟩ := va_join (wr := [(mo, .inr (3, [.int tv, .int (nI (2 ^ k)), .ref ma, .ref mb, .int (nI rs), .ref lo, .ref hi, .ref kp, .ref ot, .ref su])), (ma, .inl (cI, 256, .inl fa))]) (w1 := []) hP hD [] [0, 1] rfl rfl (by decide) (by decide) hk1 hFc hP1 hD1
  generalize H1 = H at hP hS ⊢
  have hP : va_P (dC, dI) vwCl [(mo, .inr (3, [.int tv, .int (nI (2 ^ k)), .ref ma, .ref mb, .int (nI rs), .ref lo, .ref hi, .ref kp, .ref ot, .ref su])), (ma, .inl (cI, 256, .inl fa))] H := hP
  have hD : va_D A [(mo, .inr (3, [.int tv, .int (nI (2 ^ k)), .ref ma, .ref mb, .int (nI rs), .ref lo, .ref hi, .ref kp, .ref ot, .ref su])), (ma, .inl (cI, 256, .inl fa))] := hD
  clear hPc hDc hKc hFc hP1 hD1 hk1 hz1 hvm ht
  subst hw
  refine lv_lstore (lv' := [(4, .long (lI ((prN q : Nat) : Int))), (0, .ref mo), (1, .int (nI q)), (2, .int (nI j)), (3, .int (nI 0))]) hx hb dX4_sumOf_4 hl (by decide) rfl (fun ls hl => ?_)
  refine lv_aload_n hx hb dX4_sumOf_6 rfl (lv_at hl 1 rfl) ?_
  refine lv_iload_n hx hb dX4_sumOf_7 rfl (lv_at hl 2 rfl) ?_
  have hPc := hP.sub (ws' := [(mo, .inr (3, [.int tv, .int (nI (2 ^ k)), .ref ma, .ref mb, .int (nI rs), .ref lo, .ref hi, .ref kp, .ref ot, .ref su]))]) [0] rfl
  have hDc := hD.sub (ws' := [(mo, .inr (3, [.int tv, .int (nI (2 ^ k)), .ref ma, .ref mb, .int (nI rs), .ref lo, .ref hi, .ref kp, .ref ot, .ref su]))]) [0] (by decide) rfl
  have hKc := hK.sub (tys' := []) [] rfl
  have hFc := va_free (wc := [(mo, .inr (3, [.int tv, .int (nI (2 ^ k)), .ref ma, .ref mb, .int (nI rs), .ref lo, .ref hi, .ref kp, .ref ot, .ref su]))]) hD hS hA [0] rfl
  refine va_calll (va_runV (As := [.int (nI q)]) (rest := []) ⟨hx, hb, hml, hown, hts⟩ (c_X4_rootOf l dC dI mo ma mb lo hi kp ot su k rs tv q H.size (by omega) (by omega) (by omega)) (cwV 1 hts gX4_sumOf_X4_rootOf rfl rfl rfl (by decide +kernel) ⟨Nat.le_of_ble_eq_true rfl, Nat.le_of_ble_eq_true rfl⟩) ⟨fun a U g mk q => by obtain ⟨q0, q1, qP, qK, qD⟩ := q; exact ⟨q0, q1, qP, va_K.moved (u := U) (U := U.calling g mk a) (Vm.Alike.refl U.vm) qK, qD⟩, va_recv hKc hPc (ci := 3) (q0 := 0) rfl rfl, fun U hU hW => ⟨rfl, by rw [hU], by rw [hU]; exact hPc, va_K.moved hW.alike hKc, hDc.weaken (fun _ _ _ _ => trivial)⟩⟩ rfl rfl hl.1 rfl (lv_room (Nat.le_of_ble_eq_true rfl)) dX4_sumOf_8 ⟨Nat.le_of_ble_eq_true rfl, Nat.le_of_ble_eq_true rfl⟩) hS (fun q _ h => hFc q h) hFc (fun r9 u9 t9 H1 locs ht hvm hw hB hz1 hk1 hS => ?_)
  obtain ⟨hP1, hD1⟩ := hB
  rw [ht] at hP1
  try dsimp only at hw
  obtain ⟨hP, hD⟩ := va_join (wr := [(ma, .inl (cI, 256, .inl fa))]) (w1 := [(mo, .inr (3, [.int tv, .int (nI (2 ^ k)), .ref ma, .ref mb, .int (nI rs), .ref lo, .ref hi, .ref kp, .ref ot, .ref su]))]) hP hD [0] [1] rfl rfl (by decide) (by decide) hk1 hFc hP1 hD1
  generalize H1 = H at hP hS ⊢
  have hP : va_P (dC, dI) vwCl [(ma, .inl (cI, 256, .inl fa)), (mo, .inr (3, [.int tv, .int (nI (2 ^ k)), .ref ma, .ref mb, .int (nI rs), .ref lo, .ref hi, .ref kp, .ref ot, .ref su]))] H := hP
  have hD : va_D A [(ma, .inl (cI, 256, .inl fa)), (mo, .inr (3, [.int tv, .int (nI (2 ^ k)), .ref ma, .ref mb, .int (nI rs), .ref lo, .ref hi, .ref kp, .ref ot, .ref su]))] := hD
  clear hPc hDc hKc hFc hP1 hD1 hk1 hz1 hvm ht
  subst hw
  refine lv_iload_n hx hb dX4_sumOf_11 rfl (lv_at hl 4 rfl) ?_
  refine lv_if_eq (tgt := 30) hx hb dX4_sumOf_12 (by decide) (fun c_1 => ?_) (fun c_1 => ?_)
  · have c_1 : 0 = 0 := (nI_eq (a := 0) (b := 0) (by omega) (by omega)).mp c_1
    refine lv_iload_n hx hb dX4_sumOf_30 rfl (lv_at hl 3 rfl) ?_
    refine lv_i2l (v := lI ((j : Nat) : Int)) hx hb dX4_sumOf_31 (nI_lI (by omega)) ?_
    refine lv_lload hx hb dX4_sumOf_32 (lv_at hl 0 rfl) ?_
    have hPc := hP.sub (ws' := []) [] rfl
    have hDc := hD.sub (ws' := []) [] (by decide) rfl
    have hKc := hK.sub (tys' := []) [] rfl
    have hFc := va_free (wc := []) hD hS hA [] rfl
    refine va_calll (va_runS (As := [.long (lI (frW k (prN q))), .long (lI ((j : Nat) : Int)), .long (lI ((prN q : Nat) : Int))]) (rest := []) ⟨hx, hb, hml, hown, hts⟩ (c_X4_raised l dC dI (frW k (prN q)) j (prN q) H.size (by omega) (by omega) (by omega) (by omega) (by omega)) (va_cwS 3 hts gX4_sumOf_X4_raised rfl rfl rfl (by decide +kernel) ⟨Nat.le_of_ble_eq_true rfl, Nat.le_of_ble_eq_true rfl⟩) ⟨fun a U g mk q => by obtain ⟨q0, q1, qP, qK, qD⟩ := q; exact ⟨q0, q1, qP, va_K.moved (u := U) (U := U.calling g mk a) (Vm.Alike.refl U.vm) qK, qD⟩, fun U hU hW => ⟨rfl, by rw [hU], by rw [hU]; exact hPc, va_K.moved hW.alike hKc, hDc.weaken (fun _ _ _ _ => trivial)⟩⟩ rfl rfl hl.1 rfl (lv_room (Nat.le_of_ble_eq_true rfl)) dX4_sumOf_34 ⟨Nat.le_of_ble_eq_true rfl, Nat.le_of_ble_eq_true rfl⟩) hS (fun q _ h => hFc q h) hFc (fun r9 u9 t9 H1 locs ht hvm hw hB hz1 hk1 hS => ?_)
    obtain ⟨hP1, hD1⟩ := hB
    rw [ht] at hP1
    try dsimp only at hw
    obtain ⟨hP, hD⟩ := va_join (wr := [(ma, .inl (cI, 256, .inl fa)), (mo, .inr (3, [.int tv, .int (nI (2 ^ k)), .ref ma, .ref mb, .int (nI rs), .ref lo, .ref hi, .ref kp, .ref ot, .ref su]))]) (w1 := []) hP hD [] [0, 1] rfl rfl (by decide) (by decide) hk1 hFc hP1 hD1
    generalize H1 = H at hP hS ⊢
    have hP : va_P (dC, dI) vwCl [(ma, .inl (cI, 256, .inl fa)), (mo, .inr (3, [.int tv, .int (nI (2 ^ k)), .ref ma, .ref mb, .int (nI rs), .ref lo, .ref hi, .ref kp, .ref ot, .ref su]))] H := hP
    have hD : va_D A [(ma, .inl (cI, 256, .inl fa)), (mo, .inr (3, [.int tv, .int (nI (2 ^ k)), .ref ma, .ref mb, .int (nI rs), .ref lo, .ref hi, .ref kp, .ref ot, .ref su]))] := hD
    clear hPc hDc hKc hFc hP1 hD1 hk1 hz1 hvm ht
    subst hw
    refine W.eq (congrArg (fun z => F0 m _ ls (.long z :: _)) (show lI ((frW k (prN q)) ^ j % ((prN q : Nat) : Int)) = lI x from congrArg lI hx9.symm)) ?_
    refine lv_lstore (lv' := [(6, .long (lI x)), (4, .long (lI ((prN q : Nat) : Int))), (0, .ref mo), (1, .int (nI q)), (2, .int (nI j)), (3, .int (nI 0))]) hx hb dX4_sumOf_37 hl (by decide) rfl (fun ls hl => ?_)
    refine lv_lconst (v := lI 1) hx hb dX4_sumOf_39 (by decide) ?_
    refine W.eq (congrArg (fun z => F0 m _ ls (.long z :: _)) (show lI 1 = lI (x ^ 0 % ((prN q : Nat) : Int)) from congrArg lI (by rw [Int.pow_zero, Int.emod_eq_of_lt (by omega) (by omega)]))) ?_
    refine lv_lstore (lv' := [(8, .long (lI (x ^ 0 % ((prN q : Nat) : Int)))), (6, .long (lI x)), (4, .long (lI ((prN q : Nat) : Int))), (0, .ref mo), (1, .int (nI q)), (2, .int (nI j)), (3, .int (nI 0))]) hx hb dX4_sumOf_40 hl (by decide) rfl (fun ls hl => ?_)
    refine lv_lconst (v := lI 0) hx hb dX4_sumOf_42 (by decide) ?_
    refine W.eq (congrArg (fun z => F0 m _ ls (.long z :: _)) (show lI 0 = lI (psm fa x 0 % ((prN q : Nat) : Int)) from congrArg lI (Int.zero_emod _).symm)) ?_
    refine lv_lstore (lv' := [(10, .long (lI (psm fa x 0 % ((prN q : Nat) : Int)))), (8, .long (lI (x ^ 0 % ((prN q : Nat) : Int)))), (6, .long (lI x)), (4, .long (lI ((prN q : Nat) : Int))), (0, .ref mo), (1, .int (nI q)), (2, .int (nI j)), (3, .int (nI 0))]) hx hb dX4_sumOf_43 hl (by decide) rfl (fun ls hl => ?_)
    refine lv_iconst (v := nI 0) hx hb dX4_sumOf_45 (by decide) ?_
    refine lv_istore (lv' := [(12, .int (nI 0)), (10, .long (lI (psm fa x 0 % ((prN q : Nat) : Int)))), (8, .long (lI (x ^ 0 % ((prN q : Nat) : Int)))), (6, .long (lI x)), (4, .long (lI ((prN q : Nat) : Int))), (0, .ref mo), (1, .int (nI q)), (2, .int (nI j)), (3, .int (nI 0))]) hx hb dX4_sumOf_46 hl (by decide) rfl (fun ls hl => ?_)
    have key_48 : ∀ (fuel : Nat) (t : Nat), (t ≤ 2 ^ k) → (2 ^ k - t < fuel) → ∀ (H : Heap) (locs : List Loc) (ls : Array Slot), va_P (dC, dI) vwCl [(mo, .inr (3, [.int tv, .int (nI (2 ^ k)), .ref ma, .ref mb, .int (nI rs), .ref lo, .ref hi, .ref kp, .ref ot, .ref su])), (ma, .inl (cI, 256, .inl fa))] H → va_D A [(mo, .inr (3, [.int tv, .int (nI (2 ^ k)), .ref ma, .ref mb, .int (nI rs), .ref lo, .ref hi, .ref kp, .ref ot, .ref su])), (ma, .inl (cI, 256, .inl fa))] → va_S A s.heap H locs → lv_has ls 13 [(12, .int (nI t)), (10, .long (lI (psm fa x t % ((prN q : Nat) : Int)))), (8, .long (lI (x ^ t % ((prN q : Nat) : Int)))), (6, .long (lI x)), (4, .long (lI ((prN q : Nat) : Int))), (0, .ref mo)] → W p l e (headSpec wsX4_sumOf { frames := 2, cells := 0, slots := 0, locals := 54 }).room s m ([.ref mo, .int (nI q), .int (nI j), .int (nI 0)] : List Value).toArray below meth c H locs 0 0 (MQ below (q_X4_sumOf_0 dC dI mo ma mb lo hi kp ot su k rs tv cI fa q j  A) ([.ref mo, .int (nI q), .int (nI j), .int (nI 0)] : List Value).toArray s 0 0 A) (F0 m 48 ls []) := by
      intro fuel
      induction fuel with
      | zero => intro t; intros; omega
      | succ fuel ih_48 =>
        intro t ht hfu H locs ls hP hD hS hl
        refine lv_iload hx hb dX4_sumOf_48 (lv_at hl 0 rfl) ?_
        refine lv_aload_n hx hb dX4_sumOf_50 rfl (lv_at hl 5 rfl) ?_
        refine va_get (D := (dC, dI)) (ci := 3) (v := .int (nI (2 ^ k))) (C := RX4) (T := TX4) (N := 10) hx hb hts (by decide +kernel) hown hK hP 0 rfl rfl 1 (by decide) (hts (.fieldLink RX4 7 "ThreePrimesModel" "n" "I") (by decide +kernel)) (fun _ h9 => h9) rfl dX4_sumOf_51 ?_
        refine lv_icmp_ge (tgt := 97) hx hb dX4_sumOf_54 (by decide) (fun c_2 => ?_) (fun c_2 => ?_)
        · have c_2 : 2 ^ k ≤ t := (nI_leI (a := 2 ^ k) (b := t) (by omega) (by omega)).mp c_2
          refine lv_lload hx hb dX4_sumOf_97 (lv_at hl 1 rfl) ?_
          have hP9 : va_P (dC, dI) vwCl [(mo, .inr (3, [.int tv, .int (nI (2 ^ k)), .ref ma, .ref mb, .int (nI rs), .ref lo, .ref hi, .ref kp, .ref ot, .ref su])), (ma, .inl (cI, 256, .inl fa))] H := hP.sub [0, 1] rfl
          have hD9 : va_D A [(mo, .inr (3, [.int tv, .int (nI (2 ^ k)), .ref ma, .ref mb, .int (nI rs), .ref lo, .ref hi, .ref kp, .ref ot, .ref su])), (ma, .inl (cI, 256, .inl fa))] := hD.sub [0, 1] (by decide) rfl
          exact W.lret (v := lI (psm fa x t % ((prN q : Nat) : Int))) hx hb hr (fun tq9 ht hW => ⟨⟨lI (psm fa x t % ((prN q : Nat) : Int)), (), rfl, by rw [show t = 2 ^ k by omega, hx9], by rw [ht]; exact hP9, hD9⟩, hS.F ht⟩) hS.2.2 dX4_sumOf_99
        · have c_2 : ¬ (2 ^ k ≤ t) := fun zq9 => c_2 ((nI_leI (a := 2 ^ k) (b := t) (by omega) (by omega)).mpr zq9)
          have fb9 := i32b (fa t)
          have w1 := emod_rng (x ^ t) (show (0 : Int) < prN q by omega)
          have r1 := emod_rng (psm fa x t) (show (0 : Int) < prN q by omega)
          have a1 := emod_rng (fa t).toInt (show (0 : Int) < prN q by omega)
          have m1 := mul_b30 a1.1 a1.2 w1.1 w1.2 (by omega)
          have m2 := mul_b30 w1.1 w1.2 hxr.1 hxr.2 (by omega)
          refine lv_lload hx hb dX4_sumOf_57 (lv_at hl 1 rfl) ?_
          refine lv_aload_n hx hb dX4_sumOf_59 rfl (lv_at hl 5 rfl) ?_
          refine va_get (D := (dC, dI)) (ci := 3) (v := .ref ma) (C := RX4) (T := TX4) (N := 10) hx hb hts (by decide +kernel) hown hK hP 0 rfl rfl 2 (by decide) (hts (.fieldLink RX4 13 "ThreePrimesModel" "a" "[I") (by decide +kernel)) (fun _ h9 => h9) rfl dX4_sumOf_60 ?_
          refine lv_iload hx hb dX4_sumOf_63 (lv_at hl 0 rfl) ?_
          refine va_iald hx hb hK hP 1 0 rfl rfl (vp_in_nI (by omega) (by omega)) dX4_sumOf_65 ?_
          refine W.eq (g2 := F0 m _ ls [.int (fa t), .long (lI (psm fa x t % ((prN q : Nat) : Int)))]) (by rw [nI_clamp (by omega)]) ?_
          refine lv_i2l (v := lI ((fa t).toInt)) hx hb dX4_sumOf_66 (i2l_I (fa t)) ?_
          refine lv_lload hx hb dX4_sumOf_67 (lv_at hl 4 rfl) ?_
          have hPc := hP.sub (ws' := []) [] rfl
          have hDc := hD.sub (ws' := []) [] (by decide) rfl
          have hKc := hK.sub (tys' := []) [] rfl
          have hFc := va_free (wc := []) hD hS hA [] rfl
          refine va_calll (va_runS (As := [.long (lI ((fa t).toInt)), .long (lI ((prN q : Nat) : Int))]) (rest := [.long (lI (psm fa x t % ((prN q : Nat) : Int)))]) ⟨hx, hb, hml, hown, hts⟩ (c_X4_restOf l dC dI ((fa t).toInt) (prN q) H.size (by omega) (by omega) (by omega) (by omega)) (va_cwS 2 hts gX4_sumOf_X4_restOf rfl rfl rfl (by decide +kernel) ⟨Nat.le_of_ble_eq_true rfl, Nat.le_of_ble_eq_true rfl⟩) ⟨fun a U g mk q => by obtain ⟨q0, q1, qP, qK, qD⟩ := q; exact ⟨q0, q1, qP, va_K.moved (u := U) (U := U.calling g mk a) (Vm.Alike.refl U.vm) qK, qD⟩, fun U hU hW => ⟨rfl, by rw [hU], by rw [hU]; exact hPc, va_K.moved hW.alike hKc, hDc.weaken (fun _ _ _ _ => trivial)⟩⟩ rfl rfl hl.1 rfl (lv_room (Nat.le_of_ble_eq_true rfl)) dX4_sumOf_69 ⟨Nat.le_of_ble_eq_true rfl, Nat.le_of_ble_eq_true rfl⟩) hS (fun q _ h => hFc q h) hFc (fun r9 u9 t9 H1 locs ht hvm hw hB hz1 hk1 hS => ?_)
          obtain ⟨hP1, hD1⟩ := hB
          rw [ht] at hP1
          try dsimp only at hw
          obtain ⟨hP, hD⟩ := va_join (wr := [(mo, .inr (3, [.int tv, .int (nI (2 ^ k)), .ref ma, .ref mb, .int (nI rs), .ref lo, .ref hi, .ref kp, .ref ot, .ref su])), (ma, .inl (cI, 256, .inl fa))]) (w1 := []) hP hD [] [0, 1] rfl rfl (by decide) (by decide) hk1 hFc hP1 hD1
          generalize H1 = H at hP hS ⊢
          have hP : va_P (dC, dI) vwCl [(mo, .inr (3, [.int tv, .int (nI (2 ^ k)), .ref ma, .ref mb, .int (nI rs), .ref lo, .ref hi, .ref kp, .ref ot, .ref su])), (ma, .inl (cI, 256, .inl fa))] H := hP
          have hD : va_D A [(mo, .inr (3, [.int tv, .int (nI (2 ^ k)), .ref ma, .ref mb, .int (nI rs), .ref lo, .ref hi, .ref kp, .ref ot, .ref su])), (ma, .inl (cI, 256, .inl fa))] := hD
          clear hPc hDc hKc hFc hP1 hD1 hk1 hz1 hvm ht
          subst hw
          refine lv_lload hx hb dX4_sumOf_72 (lv_at hl 2 rfl) ?_
          refine lv_lmul hx hb dX4_sumOf_74 ?_
          refine W.eq (congrArg (fun z => F0 m _ ls (.long z :: _)) (show lI (((fa t).toInt) % ((prN q : Nat) : Int)) * lI (x ^ t % ((prN q : Nat) : Int)) = lI ((((fa t).toInt) % ((prN q : Nat) : Int)) * (x ^ t % ((prN q : Nat) : Int))) from lI_mul (((fa t).toInt) % ((prN q : Nat) : Int)) (x ^ t % ((prN q : Nat) : Int)))) ?_
          refine lv_ladd hx hb dX4_sumOf_75 ?_
          refine W.eq (congrArg (fun z => F0 m _ ls (.long z :: _)) (show lI (psm fa x t % ((prN q : Nat) : Int)) + lI ((((fa t).toInt) % ((prN q : Nat) : Int)) * (x ^ t % ((prN q : Nat) : Int))) = lI ((psm fa x t % ((prN q : Nat) : Int)) + ((((fa t).toInt) % ((prN q : Nat) : Int)) * (x ^ t % ((prN q : Nat) : Int)))) from lI_add (psm fa x t % ((prN q : Nat) : Int)) ((((fa t).toInt) % ((prN q : Nat) : Int)) * (x ^ t % ((prN q : Nat) : Int))))) ?_
          refine lv_lload hx hb dX4_sumOf_76 (lv_at hl 4 rfl) ?_
          refine lv_lrem hx hb dX4_sumOf_78 (fun zq9 => absurd ((lI_eq (b := 0) (by omega) (by omega) (by omega) (by omega)).mp zq9) (by omega)) ?_
          refine W.eq (congrArg (fun z => F0 m _ ls (.long z :: _)) (show lI ((psm fa x t % ((prN q : Nat) : Int)) + ((((fa t).toInt) % ((prN q : Nat) : Int)) * (x ^ t % ((prN q : Nat) : Int)))) - lI ((psm fa x t % ((prN q : Nat) : Int)) + ((((fa t).toInt) % ((prN q : Nat) : Int)) * (x ^ t % ((prN q : Nat) : Int)))) / lI ((prN q : Nat) : Int) * lI ((prN q : Nat) : Int) = lI (((psm fa x t % ((prN q : Nat) : Int)) + ((((fa t).toInt) % ((prN q : Nat) : Int)) * (x ^ t % ((prN q : Nat) : Int)))) % ((prN q : Nat) : Int)) from lI_rem0 (by omega) (by omega) (by omega) (by omega))) ?_
          refine W.eq (congrArg (fun z => F0 m _ ls (.long z :: _)) (show lI (((psm fa x t % ((prN q : Nat) : Int)) + ((((fa t).toInt) % ((prN q : Nat) : Int)) * (x ^ t % ((prN q : Nat) : Int)))) % ((prN q : Nat) : Int)) = lI (psm fa x (t + 1) % ((prN q : Nat) : Int)) from congrArg lI psm_step)) ?_
          refine lv_lstore (lv' := [(10, .long (lI (psm fa x (t + 1) % ((prN q : Nat) : Int)))), (12, .int (nI t)), (8, .long (lI (x ^ t % ((prN q : Nat) : Int)))), (6, .long (lI x)), (4, .long (lI ((prN q : Nat) : Int))), (0, .ref mo)]) hx hb dX4_sumOf_79 hl (by decide) rfl (fun ls hl => ?_)
          refine lv_lload hx hb dX4_sumOf_81 (lv_at hl 2 rfl) ?_
          refine lv_lload hx hb dX4_sumOf_83 (lv_at hl 3 rfl) ?_
          refine lv_lmul hx hb dX4_sumOf_85 ?_
          refine W.eq (congrArg (fun z => F0 m _ ls (.long z :: _)) (show lI (x ^ t % ((prN q : Nat) : Int)) * lI x = lI ((x ^ t % ((prN q : Nat) : Int)) * x) from lI_mul (x ^ t % ((prN q : Nat) : Int)) x)) ?_
          refine lv_lload hx hb dX4_sumOf_86 (lv_at hl 4 rfl) ?_
          refine lv_lrem hx hb dX4_sumOf_88 (fun zq9 => absurd ((lI_eq (b := 0) (by omega) (by omega) (by omega) (by omega)).mp zq9) (by omega)) ?_
          refine W.eq (congrArg (fun z => F0 m _ ls (.long z :: _)) (show lI ((x ^ t % ((prN q : Nat) : Int)) * x) - lI ((x ^ t % ((prN q : Nat) : Int)) * x) / lI ((prN q : Nat) : Int) * lI ((prN q : Nat) : Int) = lI (((x ^ t % ((prN q : Nat) : Int)) * x) % ((prN q : Nat) : Int)) from lI_rem0 (by omega) (by omega) (by omega) (by omega))) ?_
          refine W.eq (congrArg (fun z => F0 m _ ls (.long z :: _)) (show lI (((x ^ t % ((prN q : Nat) : Int)) * x) % ((prN q : Nat) : Int)) = lI (x ^ (t + 1) % ((prN q : Nat) : Int)) from congrArg lI pow_step)) ?_
          refine lv_lstore (lv' := [(8, .long (lI (x ^ (t + 1) % ((prN q : Nat) : Int)))), (10, .long (lI (psm fa x (t + 1) % ((prN q : Nat) : Int)))), (12, .int (nI t)), (6, .long (lI x)), (4, .long (lI ((prN q : Nat) : Int))), (0, .ref mo)]) hx hb dX4_sumOf_89 hl (by decide) rfl (fun ls hl => ?_)
          refine lv_iinc (v := nI (t + 1)) (lv' := [(12, .int (nI (t + 1))), (8, .long (lI (x ^ (t + 1) % ((prN q : Nat) : Int)))), (10, .long (lI (psm fa x (t + 1) % ((prN q : Nat) : Int)))), (6, .long (lI x)), (4, .long (lI ((prN q : Nat) : Int))), (0, .ref mo)]) hx hb dX4_sumOf_91 hl (k := 2) rfl (nI_add t 1) (by decide) rfl (fun ls hl => ?_)
          refine lv_goto (tgt := 48) hx hb dX4_sumOf_94 (by decide) ?_
          exact ih_48  (t + 1) (by omega) (by omega) _ _ _ (hP.sub [0, 1] rfl) (hD.sub [0, 1] (by decide) rfl) hS (lv_sub hl [0, 2, 1, 3, 4, 5] rfl)
    exact key_48 (2 ^ k + 1) 0 (by omega) (by omega) _ _ _ (hP.sub [1, 0] rfl) (hD.sub [1, 0] (by decide) rfl) hS (lv_sub hl [0, 1, 2, 3, 4, 5] rfl)
  · have c_1 : ¬ (0 = 0) := fun zq9 => c_1 ((nI_eq (a := 0) (b := 0) (by omega) (by omega)).mpr zq9)
    omega

abbrev q_X4_sumOf_1 (dC : Nat → ClassId) (dI : Nat → Nat → Nat) (mo ma mb lo hi kp ot su k rs : Nat) (tv : Int32) (cI : ClassId) (fa : Nat → Int32) (q j : Nat) (A : Nat → Prop) : Array Value → State → Outcome → State → Prop := va_Ql (fun (r : Int64) (u : Unit) => r = lI (psm fa (frW k (prN q) ^ ((2 ^ k - j) % 2 ^ k) % (prN q : Int)) (2 ^ k) % (prN q : Int))) (fun u t => va_P (dC, dI) vwCl [(mo, .inr (3, [.int tv, .int (nI (2 ^ k)), .ref ma, .ref mb, .int (nI rs), .ref lo, .ref hi, .ref kp, .ref ot, .ref su])), (ma, .inl (cI, 256, .inl fa))] t.heap ∧ va_D A [(mo, .inr (3, [.int tv, .int (nI (2 ^ k)), .ref ma, .ref mb, .int (nI rs), .ref lo, .ref hi, .ref kp, .ref ot, .ref su])), (ma, .inl (cI, 256, .inl fa))]) A
set_option maxHeartbeats 4000000 in
set_option maxRecDepth 100000 in
theorem c_X4_sumOf_1 (l : Launch) (dC : Nat → ClassId) (dI : Nat → Nat → Nat) (mo ma mb lo hi kp ot su k rs : Nat) (tv : Int32) (cI : ClassId) (fa : Nat → Int32) (q j : Nat) (sz : Nat) (zk1 : 1 ≤ k) (zk : k ≤ 8) (zq : q < 3) (zj : j < 2 ^ k) : Met l yX4_sumOf wsX4_sumOf ({ frames := 2, cells := 0, slots := 0, locals := 54 }) (va_Pc [.ref mo, .int (nI q), .int (nI j), .int (nI 1)] (fun U => U.heap.size = sz ∧ va_P (dC, dI) vwCl [(mo, .inr (3, [.int tv, .int (nI (2 ^ k)), .ref ma, .ref mb, .int (nI rs), .ref lo, .ref hi, .ref kp, .ref ot, .ref su])), (ma, .inl (cI, 256, .inl fa))] U.heap ∧ va_K (dC, dI) vwCl [(cI, .int)] U ∧ va_D (fun _ => True) [(mo, .inr (3, [.int tv, .int (nI (2 ^ k)), .ref ma, .ref mb, .int (nI rs), .ref lo, .ref hi, .ref kp, .ref ot, .ref su])), (ma, .inl (cI, 256, .inl fa))])) (q_X4_sumOf_1 dC dI mo ma mb lo hi kp ot su k rs tv cI fa q j (va_A [(mo, .inr (3, [.int tv, .int (nI (2 ^ k)), .ref ma, .ref mb, .int (nI rs), .ref lo, .ref hi, .ref kp, .ref ot, .ref su])), (ma, .inl (cI, 256, .inl fa))] sz)) 0 0 (va_A [(mo, .inr (3, [.int tv, .int (nI (2 ^ k)), .ref ma, .ref mb, .int (nI rs), .ref lo, .ref hi, .ref kp, .ref ot, .ref su])), (ma, .inl (cI, 256, .inl fa))] sz) := by
  refine Met.ofW (cc := cX4_sumOf) (maxL := 13) (ret := (some .long)) (by decide) rfl ?_
  intro p e s m args below meth c s₁ B hml hv
  obtain ⟨rfl, hsz, hP, hK, hD0⟩ := hv
  have hx := B.exec
  have hb := B.bytes
  have hr := B.returns
  have hts := atoms_spec (ws := wsX4_sumOf) B.pre
  have hown : s.vm.findClass RX4 = some m.cls := findClass_of_methodNamed B.named
  have hlocks := B.notSynchronized
  subst hsz
  have hD := hD0.self (sz := s.heap.size)
  generalize hAe : va_A [(mo, .inr (3, [.int tv, .int (nI (2 ^ k)), .ref ma, .ref mb, .int (nI rs), .ref lo, .ref hi, .ref kp, .ref ot, .ref su])), (ma, .inl (cI, 256, .inl fa))] s.heap.size = A at hD ⊢
  have hA : ∀ q : Nat, s.heap.size ≤ q → A q := fun q h => by rw [← hAe]; exact Or.inr h
  have hS : va_S A s.heap s.heap [] := va_S.rf
  have hP : va_P (dC, dI) vwCl [(mo, .inr (3, [.int tv, .int (nI (2 ^ k)), .ref ma, .ref mb, .int (nI rs), .ref lo, .ref hi, .ref kp, .ref ot, .ref su])), (ma, .inl (cI, 256, .inl fa))] s.heap := hP
  have hl := lv_entry (([.ref mo, .int (nI q), .int (nI j), .int (nI 1)] : List Value)) (n := 13) (Nat.le_of_ble_eq_true rfl)
  rw [lg_entry_eq]
  generalize (lg_sl (([.ref mo, .int (nI q), .int (nI j), .int (nI 1)] : List Value)) ++ List.replicate (13 - (lg_sl (([.ref mo, .int (nI q), .int (nI j), .int (nI 1)] : List Value))).length) Slot.unset).toArray = ls at hl ⊢
  have hl : lv_has ls 13 [(0, .ref mo), (1, .int (nI q)), (2, .int (nI j)), (3, .int (nI 1))] := hl
  obtain ⟨H, hHe⟩ : ∃ H : Heap, H = s.heap := ⟨_, rfl⟩
  rw [← hHe] at hP
  have hS : va_S A s.heap H [] := by rw [hHe]; exact hS
  obtain ⟨locs, hlo⟩ : ∃ L : List Loc, L = [] := ⟨_, rfl⟩
  rw [← hlo] at hS ⊢
  rw [← hHe]
  have hpk := pw8 zk
  have hpr := prN_b q
  have hwr := emod_rng (3 ^ ((prN q - 1) / 2 ^ k)) (show (0 : Int) < prN q by omega)
  have hwf : 3 ^ ((prN q - 1) / 2 ^ k) % (prN q : Int) = frW k (prN q) := rfl
  rw [hwf] at hwr
  have hml2 := Nat.mod_lt (2 ^ k - j) (show 0 < 2 ^ k by omega)
  obtain ⟨x, hx9⟩ : ∃ x : Int, x = (frW k (prN q) ^ ((2 ^ k - j) % 2 ^ k) % (prN q : Int)) := ⟨_, rfl⟩
  have hxr := emod_rng (frW k (prN q) ^ ((2 ^ k - j) % 2 ^ k)) (show (0 : Int) < prN q by omega)
  rw [← hx9] at hxr
  refine lv_iload_n hx hb dX4_sumOf_0 rfl (lv_at hl 1 rfl) ?_
  have hPc := hP.sub (ws' := []) [] rfl
  have hDc := hD.sub (ws' := []) [] (by decide) rfl
  have hKc := hK.sub (tys' := []) [] rfl
  have hFc := va_free (wc := []) hD hS hA [] rfl
  refine va_calll (va_runS (As := [.int (nI q)]) (rest := []) ⟨hx, hb, hml, hown, hts⟩ (c_X4_prime l dC dI q H.size (by omega)) (va_cwS 1 hts gX4_sumOf_X4_prime rfl rfl rfl (by decide +kernel) ⟨Nat.le_of_ble_eq_true rfl, Nat.le_of_ble_eq_true rfl⟩) ⟨fun a U g mk q => by obtain ⟨q0, q1, qP, qK, qD⟩ := q; exact ⟨q0, q1, qP, va_K.moved (u := U) (U := U.calling g mk a) (Vm.Alike.refl U.vm) qK, qD⟩, fun U hU hW => ⟨rfl, by rw [hU], by rw [hU]; exact hPc, va_K.moved hW.alike hKc, hDc.weaken (fun _ _ _ _ => trivial)⟩⟩ rfl rfl hl.1 rfl (lv_room (Nat.le_of_ble_eq_true rfl)) dX4_sumOf_1 ⟨Nat.le_of_ble_eq_true rfl, Nat.le_of_ble_eq_true rfl⟩) hS (fun q _ h => hFc q h) hFc (fun r9 u9 t9 H1 locs ht hvm hw hB hz1 hk1 hS => ?_)
  obtain ⟨hP1, hD1⟩ := hB
  rw [ht] at hP1
  try dsimp only at hw
  obtain ⟨hP, hD⟩ := va_join (wr := [(mo, .inr (3, [.int tv, .int (nI (2 ^ k)), .ref ma, .ref mb, .int (nI rs), .ref lo, .ref hi, .ref kp, .ref ot, .ref su])), (ma, .inl (cI, 256, .inl fa))]) (w1 := []) hP hD [] [0, 1] rfl rfl (by decide) (by decide) hk1 hFc hP1 hD1
  generalize H1 = H at hP hS ⊢
  have hP : va_P (dC, dI) vwCl [(mo, .inr (3, [.int tv, .int (nI (2 ^ k)), .ref ma, .ref mb, .int (nI rs), .ref lo, .ref hi, .ref kp, .ref ot, .ref su])), (ma, .inl (cI, 256, .inl fa))] H := hP
  have hD : va_D A [(mo, .inr (3, [.int tv, .int (nI (2 ^ k)), .ref ma, .ref mb, .int (nI rs), .ref lo, .ref hi, .ref kp, .ref ot, .ref su])), (ma, .inl (cI, 256, .inl fa))] := hD
  clear hPc hDc hKc hFc hP1 hD1 hk1 hz1 hvm ht
  subst hw
  refine lv_lstore (lv' := [(4, .long (lI ((prN q : Nat) : Int))), (0, .ref mo), (1, .int (nI q)), (2, .int (nI j)), (3, .int (nI 1))]) hx hb dX4_sumOf_4 hl (by decide) rfl (fun ls hl => ?_)
  refine lv_aload_n hx hb dX4_sumOf_6 rfl (lv_at hl 1 rfl) ?_
  refine lv_iload_n hx hb dX4_sumOf_7 rfl (lv_at hl 2 rfl) ?_
  have hPc := hP.sub (ws' := [(mo, .inr (3, [.int tv, .int (nI (2 ^ k)), .ref ma, .ref mb, .int (nI rs), .ref lo, .ref hi, .ref kp, .ref ot, .ref su]))]) [0] rfl
  have hDc := hD.sub (ws' := [(mo, .inr (3, [.int tv, .int (nI (2 ^ k)), .ref ma, .ref mb, .int (nI rs), .ref lo, .ref hi, .ref kp, .ref ot, .ref su]))]) [0] (by decide) rfl
  have hKc := hK.sub (tys' := []) [] rfl
  have hFc := va_free (wc := [(mo, .inr (3, [.int tv, .int (nI (2 ^ k)), .ref ma, .ref mb, .int (nI rs), .ref lo, .ref hi, .ref kp, .ref ot, .ref su]))]) hD hS hA [0] rfl
  refine va_calll (va_runV (As := [.int (nI q)]) (rest := []) ⟨hx, hb, hml, hown, hts⟩ (c_X4_rootOf l dC dI mo ma mb lo hi kp ot su k rs tv q H.size (by omega) (by omega) (by omega)) (cwV 1 hts gX4_sumOf_X4_rootOf rfl rfl rfl (by decide +kernel) ⟨Nat.le_of_ble_eq_true rfl, Nat.le_of_ble_eq_true rfl⟩) ⟨fun a U g mk q => by obtain ⟨q0, q1, qP, qK, qD⟩ := q; exact ⟨q0, q1, qP, va_K.moved (u := U) (U := U.calling g mk a) (Vm.Alike.refl U.vm) qK, qD⟩, va_recv hKc hPc (ci := 3) (q0 := 0) rfl rfl, fun U hU hW => ⟨rfl, by rw [hU], by rw [hU]; exact hPc, va_K.moved hW.alike hKc, hDc.weaken (fun _ _ _ _ => trivial)⟩⟩ rfl rfl hl.1 rfl (lv_room (Nat.le_of_ble_eq_true rfl)) dX4_sumOf_8 ⟨Nat.le_of_ble_eq_true rfl, Nat.le_of_ble_eq_true rfl⟩) hS (fun q _ h => hFc q h) hFc (fun r9 u9 t9 H1 locs ht hvm hw hB hz1 hk1 hS => ?_)
  obtain ⟨hP1, hD1⟩ := hB
  rw [ht] at hP1
  try dsimp only at hw
  obtain ⟨hP, hD⟩ := va_join (wr := [(ma, .inl (cI, 256, .inl fa))]) (w1 := [(mo, .inr (3, [.int tv, .int (nI (2 ^ k)), .ref ma, .ref mb, .int (nI rs), .ref lo, .ref hi, .ref kp, .ref ot, .ref su]))]) hP hD [0] [1] rfl rfl (by decide) (by decide) hk1 hFc hP1 hD1
  generalize H1 = H at hP hS ⊢
  have hP : va_P (dC, dI) vwCl [(ma, .inl (cI, 256, .inl fa)), (mo, .inr (3, [.int tv, .int (nI (2 ^ k)), .ref ma, .ref mb, .int (nI rs), .ref lo, .ref hi, .ref kp, .ref ot, .ref su]))] H := hP
  have hD : va_D A [(ma, .inl (cI, 256, .inl fa)), (mo, .inr (3, [.int tv, .int (nI (2 ^ k)), .ref ma, .ref mb, .int (nI rs), .ref lo, .ref hi, .ref kp, .ref ot, .ref su]))] := hD
  clear hPc hDc hKc hFc hP1 hD1 hk1 hz1 hvm ht
  subst hw
  refine lv_iload_n hx hb dX4_sumOf_11 rfl (lv_at hl 4 rfl) ?_
  refine lv_if_eq (tgt := 30) hx hb dX4_sumOf_12 (by decide) (fun c_1 => ?_) (fun c_1 => ?_)
  · have c_1 : 1 = 0 := (nI_eq (a := 1) (b := 0) (by omega) (by omega)).mp c_1
    omega
  · have c_1 : ¬ (1 = 0) := fun zq9 => c_1 ((nI_eq (a := 1) (b := 0) (by omega) (by omega)).mpr zq9)
    refine lv_aload_n hx hb dX4_sumOf_15 rfl (lv_at hl 1 rfl) ?_
    refine va_get (D := (dC, dI)) (ci := 3) (v := .int (nI (2 ^ k))) (C := RX4) (T := TX4) (N := 10) hx hb hts (by decide +kernel) hown hK hP 1 rfl rfl 1 (by decide) (hts (.fieldLink RX4 7 "ThreePrimesModel" "n" "I") (by decide +kernel)) (fun _ h9 => h9) rfl dX4_sumOf_16 ?_
    refine lv_iload_n hx hb dX4_sumOf_19 rfl (lv_at hl 3 rfl) ?_
    refine lv_isub hx hb dX4_sumOf_20 ?_
    refine W.eq (congrArg (fun z => F0 m _ ls (.int z :: _)) (show (nI (2 ^ k)) - (nI j) = nI (2 ^ k - j) from pk_sub (by omega))) ?_
    refine lv_aload_n hx hb dX4_sumOf_21 rfl (lv_at hl 1 rfl) ?_
    refine va_get (D := (dC, dI)) (ci := 3) (v := .int (nI (2 ^ k))) (C := RX4) (T := TX4) (N := 10) hx hb hts (by decide +kernel) hown hK hP 1 rfl rfl 1 (by decide) (hts (.fieldLink RX4 7 "ThreePrimesModel" "n" "I") (by decide +kernel)) (fun _ h9 => h9) rfl dX4_sumOf_22 ?_
    refine lv_irem hx hb dX4_sumOf_25 (nI_ne0 (by omega) (by omega)) ?_
    refine W.eq (congrArg (fun z => F0 m _ ls (.int z :: _)) (show nI (2 ^ k - j) - nI (2 ^ k - j) / nI (2 ^ k) * nI (2 ^ k) = nI ((2 ^ k - j) % (2 ^ k)) from pk_rem (by omega) (by omega) (by omega))) ?_
    refine lv_i2l (v := lI (((2 ^ k - j) % (2 ^ k) : Nat) : Int)) hx hb dX4_sumOf_26 (nI_lI (by omega)) ?_
    refine lv_goto (tgt := 32) hx hb dX4_sumOf_27 (by decide) ?_
    refine lv_lload hx hb dX4_sumOf_32 (lv_at hl 0 rfl) ?_
    have hPc := hP.sub (ws' := []) [] rfl
    have hDc := hD.sub (ws' := []) [] (by decide) rfl
    have hKc := hK.sub (tys' := []) [] rfl
    have hFc := va_free (wc := []) hD hS hA [] rfl
    refine va_calll (va_runS (As := [.long (lI (frW k (prN q))), .long (lI (((2 ^ k - j) % (2 ^ k) : Nat) : Int)), .long (lI ((prN q : Nat) : Int))]) (rest := []) ⟨hx, hb, hml, hown, hts⟩ (c_X4_raised l dC dI (frW k (prN q)) ((2 ^ k - j) % (2 ^ k)) (prN q) H.size (by omega) (by omega) (by omega) (by omega) (by omega)) (va_cwS 3 hts gX4_sumOf_X4_raised rfl rfl rfl (by decide +kernel) ⟨Nat.le_of_ble_eq_true rfl, Nat.le_of_ble_eq_true rfl⟩) ⟨fun a U g mk q => by obtain ⟨q0, q1, qP, qK, qD⟩ := q; exact ⟨q0, q1, qP, va_K.moved (u := U) (U := U.calling g mk a) (Vm.Alike.refl U.vm) qK, qD⟩, fun U hU hW => ⟨rfl, by rw [hU], by rw [hU]; exact hPc, va_K.moved hW.alike hKc, hDc.weaken (fun _ _ _ _ => trivial)⟩⟩ rfl rfl hl.1 rfl (lv_room (Nat.le_of_ble_eq_true rfl)) dX4_sumOf_34 ⟨Nat.le_of_ble_eq_true rfl, Nat.le_of_ble_eq_true rfl⟩) hS (fun q _ h => hFc q h) hFc (fun r9 u9 t9 H1 locs ht hvm hw hB hz1 hk1 hS => ?_)
    obtain ⟨hP1, hD1⟩ := hB
    rw [ht] at hP1
    try dsimp only at hw
    obtain ⟨hP, hD⟩ := va_join (wr := [(ma, .inl (cI, 256, .inl fa)), (mo, .inr (3, [.int tv, .int (nI (2 ^ k)), .ref ma, .ref mb, .int (nI rs), .ref lo, .ref hi, .ref kp, .ref ot, .ref su]))]) (w1 := []) hP hD [] [0, 1] rfl rfl (by decide) (by decide) hk1 hFc hP1 hD1
    generalize H1 = H at hP hS ⊢
    have hP : va_P (dC, dI) vwCl [(ma, .inl (cI, 256, .inl fa)), (mo, .inr (3, [.int tv, .int (nI (2 ^ k)), .ref ma, .ref mb, .int (nI rs), .ref lo, .ref hi, .ref kp, .ref ot, .ref su]))] H := hP
    have hD : va_D A [(ma, .inl (cI, 256, .inl fa)), (mo, .inr (3, [.int tv, .int (nI (2 ^ k)), .ref ma, .ref mb, .int (nI rs), .ref lo, .ref hi, .ref kp, .ref ot, .ref su]))] := hD
    clear hPc hDc hKc hFc hP1 hD1 hk1 hz1 hvm ht
    subst hw
    refine W.eq (congrArg (fun z => F0 m _ ls (.long z :: _)) (show lI ((frW k (prN q)) ^ ((2 ^ k - j) % (2 ^ k)) % ((prN q : Nat) : Int)) = lI x from congrArg lI hx9.symm)) ?_
    refine lv_lstore (lv' := [(6, .long (lI x)), (4, .long (lI ((prN q : Nat) : Int))), (0, .ref mo), (1, .int (nI q)), (2, .int (nI j)), (3, .int (nI 1))]) hx hb dX4_sumOf_37 hl (by decide) rfl (fun ls hl => ?_)
    refine lv_lconst (v := lI 1) hx hb dX4_sumOf_39 (by decide) ?_
    refine W.eq (congrArg (fun z => F0 m _ ls (.long z :: _)) (show lI 1 = lI (x ^ 0 % ((prN q : Nat) : Int)) from congrArg lI (by rw [Int.pow_zero, Int.emod_eq_of_lt (by omega) (by omega)]))) ?_
    refine lv_lstore (lv' := [(8, .long (lI (x ^ 0 % ((prN q : Nat) : Int)))), (6, .long (lI x)), (4, .long (lI ((prN q : Nat) : Int))), (0, .ref mo), (1, .int (nI q)), (2, .int (nI j)), (3, .int (nI 1))]) hx hb dX4_sumOf_40 hl (by decide) rfl (fun ls hl => ?_)
    refine lv_lconst (v := lI 0) hx hb dX4_sumOf_42 (by decide) ?_
    refine W.eq (congrArg (fun z => F0 m _ ls (.long z :: _)) (show lI 0 = lI (psm fa x 0 % ((prN q : Nat) : Int)) from congrArg lI (Int.zero_emod _).symm)) ?_
    refine lv_lstore (lv' := [(10, .long (lI (psm fa x 0 % ((prN q : Nat) : Int)))), (8, .long (lI (x ^ 0 % ((prN q : Nat) : Int)))), (6, .long (lI x)), (4, .long (lI ((prN q : Nat) : Int))), (0, .ref mo), (1, .int (nI q)), (2, .int (nI j)), (3, .int (nI 1))]) hx hb dX4_sumOf_43 hl (by decide) rfl (fun ls hl => ?_)
    refine lv_iconst (v := nI 0) hx hb dX4_sumOf_45 (by decide) ?_
    refine lv_istore (lv' := [(12, .int (nI 0)), (10, .long (lI (psm fa x 0 % ((prN q : Nat) : Int)))), (8, .long (lI (x ^ 0 % ((prN q : Nat) : Int)))), (6, .long (lI x)), (4, .long (lI ((prN q : Nat) : Int))), (0, .ref mo), (1, .int (nI q)), (2, .int (nI j)), (3, .int (nI 1))]) hx hb dX4_sumOf_46 hl (by decide) rfl (fun ls hl => ?_)
    have key_48 : ∀ (fuel : Nat) (t : Nat), (t ≤ 2 ^ k) → (2 ^ k - t < fuel) → ∀ (H : Heap) (locs : List Loc) (ls : Array Slot), va_P (dC, dI) vwCl [(mo, .inr (3, [.int tv, .int (nI (2 ^ k)), .ref ma, .ref mb, .int (nI rs), .ref lo, .ref hi, .ref kp, .ref ot, .ref su])), (ma, .inl (cI, 256, .inl fa))] H → va_D A [(mo, .inr (3, [.int tv, .int (nI (2 ^ k)), .ref ma, .ref mb, .int (nI rs), .ref lo, .ref hi, .ref kp, .ref ot, .ref su])), (ma, .inl (cI, 256, .inl fa))] → va_S A s.heap H locs → lv_has ls 13 [(12, .int (nI t)), (10, .long (lI (psm fa x t % ((prN q : Nat) : Int)))), (8, .long (lI (x ^ t % ((prN q : Nat) : Int)))), (6, .long (lI x)), (4, .long (lI ((prN q : Nat) : Int))), (0, .ref mo)] → W p l e (headSpec wsX4_sumOf { frames := 2, cells := 0, slots := 0, locals := 54 }).room s m ([.ref mo, .int (nI q), .int (nI j), .int (nI 1)] : List Value).toArray below meth c H locs 0 0 (MQ below (q_X4_sumOf_1 dC dI mo ma mb lo hi kp ot su k rs tv cI fa q j  A) ([.ref mo, .int (nI q), .int (nI j), .int (nI 1)] : List Value).toArray s 0 0 A) (F0 m 48 ls []) := by
      intro fuel
      induction fuel with
      | zero => intro t; intros; omega
      | succ fuel ih_48 =>
        intro t ht hfu H locs ls hP hD hS hl
        refine lv_iload hx hb dX4_sumOf_48 (lv_at hl 0 rfl) ?_
        refine lv_aload_n hx hb dX4_sumOf_50 rfl (lv_at hl 5 rfl) ?_
        refine va_get (D := (dC, dI)) (ci := 3) (v := .int (nI (2 ^ k))) (C := RX4) (T := TX4) (N := 10) hx hb hts (by decide +kernel) hown hK hP 0 rfl rfl 1 (by decide) (hts (.fieldLink RX4 7 "ThreePrimesModel" "n" "I") (by decide +kernel)) (fun _ h9 => h9) rfl dX4_sumOf_51 ?_
        refine lv_icmp_ge (tgt := 97) hx hb dX4_sumOf_54 (by decide) (fun c_2 => ?_) (fun c_2 => ?_)
        · have c_2 : 2 ^ k ≤ t := (nI_leI (a := 2 ^ k) (b := t) (by omega) (by omega)).mp c_2
          refine lv_lload hx hb dX4_sumOf_97 (lv_at hl 1 rfl) ?_
          have hP9 : va_P (dC, dI) vwCl [(mo, .inr (3, [.int tv, .int (nI (2 ^ k)), .ref ma, .ref mb, .int (nI rs), .ref lo, .ref hi, .ref kp, .ref ot, .ref su])), (ma, .inl (cI, 256, .inl fa))] H := hP.sub [0, 1] rfl
          have hD9 : va_D A [(mo, .inr (3, [.int tv, .int (nI (2 ^ k)), .ref ma, .ref mb, .int (nI rs), .ref lo, .ref hi, .ref kp, .ref ot, .ref su])), (ma, .inl (cI, 256, .inl fa))] := hD.sub [0, 1] (by decide) rfl
          exact W.lret (v := lI (psm fa x t % ((prN q : Nat) : Int))) hx hb hr (fun tq9 ht hW => ⟨⟨lI (psm fa x t % ((prN q : Nat) : Int)), (), rfl, by rw [show t = 2 ^ k by omega, hx9], by rw [ht]; exact hP9, hD9⟩, hS.F ht⟩) hS.2.2 dX4_sumOf_99
        · have c_2 : ¬ (2 ^ k ≤ t) := fun zq9 => c_2 ((nI_leI (a := 2 ^ k) (b := t) (by omega) (by omega)).mpr zq9)
          have fb9 := i32b (fa t)
          have w1 := emod_rng (x ^ t) (show (0 : Int) < prN q by omega)
          have r1 := emod_rng (psm fa x t) (show (0 : Int) < prN q by omega)
          have a1 := emod_rng (fa t).toInt (show (0 : Int) < prN q by omega)
          have m1 := mul_b30 a1.1 a1.2 w1.1 w1.2 (by omega)
          have m2 := mul_b30 w1.1 w1.2 hxr.1 hxr.2 (by omega)
          refine lv_lload hx hb dX4_sumOf_57 (lv_at hl 1 rfl) ?_
          refine lv_aload_n hx hb dX4_sumOf_59 rfl (lv_at hl 5 rfl) ?_
          refine va_get (D := (dC, dI)) (ci := 3) (v := .ref ma) (C := RX4) (T := TX4) (N := 10) hx hb hts (by decide +kernel) hown hK hP 0 rfl rfl 2 (by decide) (hts (.fieldLink RX4 13 "ThreePrimesModel" "a" "[I") (by decide +kernel)) (fun _ h9 => h9) rfl dX4_sumOf_60 ?_
          refine lv_iload hx hb dX4_sumOf_63 (lv_at hl 0 rfl) ?_
          refine va_iald hx hb hK hP 1 0 rfl rfl (vp_in_nI (by omega) (by omega)) dX4_sumOf_65 ?_
          refine W.eq (g2 := F0 m _ ls [.int (fa t), .long (lI (psm fa x t % ((prN q : Nat) : Int)))]) (by rw [nI_clamp (by omega)]) ?_
          refine lv_i2l (v := lI ((fa t).toInt)) hx hb dX4_sumOf_66 (i2l_I (fa t)) ?_
          refine lv_lload hx hb dX4_sumOf_67 (lv_at hl 4 rfl) ?_
          have hPc := hP.sub (ws' := []) [] rfl
          have hDc := hD.sub (ws' := []) [] (by decide) rfl
          have hKc := hK.sub (tys' := []) [] rfl
          have hFc := va_free (wc := []) hD hS hA [] rfl
          refine va_calll (va_runS (As := [.long (lI ((fa t).toInt)), .long (lI ((prN q : Nat) : Int))]) (rest := [.long (lI (psm fa x t % ((prN q : Nat) : Int)))]) ⟨hx, hb, hml, hown, hts⟩ (c_X4_restOf l dC dI ((fa t).toInt) (prN q) H.size (by omega) (by omega) (by omega) (by omega)) (va_cwS 2 hts gX4_sumOf_X4_restOf rfl rfl rfl (by decide +kernel) ⟨Nat.le_of_ble_eq_true rfl, Nat.le_of_ble_eq_true rfl⟩) ⟨fun a U g mk q => by obtain ⟨q0, q1, qP, qK, qD⟩ := q; exact ⟨q0, q1, qP, va_K.moved (u := U) (U := U.calling g mk a) (Vm.Alike.refl U.vm) qK, qD⟩, fun U hU hW => ⟨rfl, by rw [hU], by rw [hU]; exact hPc, va_K.moved hW.alike hKc, hDc.weaken (fun _ _ _ _ => trivial)⟩⟩ rfl rfl hl.1 rfl (lv_room (Nat.le_of_ble_eq_true rfl)) dX4_sumOf_69 ⟨Nat.le_of_ble_eq_true rfl, Nat.le_of_ble_eq_true rfl⟩) hS (fun q _ h => hFc q h) hFc (fun r9 u9 t9 H1 locs ht hvm hw hB hz1 hk1 hS => ?_)
          obtain ⟨hP1, hD1⟩ := hB
          rw [ht] at hP1
          try dsimp only at hw
          obtain ⟨hP, hD⟩ := va_join (wr := [(mo, .inr (3, [.int tv, .int (nI (2 ^ k)), .ref ma, .ref mb, .int (nI rs), .ref lo, .ref hi, .ref kp, .ref ot, .ref su])), (ma, .inl (cI, 256, .inl fa))]) (w1 := []) hP hD [] [0, 1] rfl rfl (by decide) (by decide) hk1 hFc hP1 hD1
          generalize H1 = H at hP hS ⊢
          have hP : va_P (dC, dI) vwCl [(mo, .inr (3, [.int tv, .int (nI (2 ^ k)), .ref ma, .ref mb, .int (nI rs), .ref lo, .ref hi, .ref kp, .ref ot, .ref su])), (ma, .inl (cI, 256, .inl fa))] H := hP
          have hD : va_D A [(mo, .inr (3, [.int tv, .int (nI (2 ^ k)), .ref ma, .ref mb, .int (nI rs), .ref lo, .ref hi, .ref kp, .ref ot, .ref su])), (ma, .inl (cI, 256, .inl fa))] := hD
          clear hPc hDc hKc hFc hP1 hD1 hk1 hz1 hvm ht
          subst hw
          refine lv_lload hx hb dX4_sumOf_72 (lv_at hl 2 rfl) ?_
          refine lv_lmul hx hb dX4_sumOf_74 ?_
          refine W.eq (congrArg (fun z => F0 m _ ls (.long z :: _)) (show lI (((fa t).toInt) % ((prN q : Nat) : Int)) * lI (x ^ t % ((prN q : Nat) : Int)) = lI ((((fa t).toInt) % ((prN q : Nat) : Int)) * (x ^ t % ((prN q : Nat) : Int))) from lI_mul (((fa t).toInt) % ((prN q : Nat) : Int)) (x ^ t % ((prN q : Nat) : Int)))) ?_
          refine lv_ladd hx hb dX4_sumOf_75 ?_
          refine W.eq (congrArg (fun z => F0 m _ ls (.long z :: _)) (show lI (psm fa x t % ((prN q : Nat) : Int)) + lI ((((fa t).toInt) % ((prN q : Nat) : Int)) * (x ^ t % ((prN q : Nat) : Int))) = lI ((psm fa x t % ((prN q : Nat) : Int)) + ((((fa t).toInt) % ((prN q : Nat) : Int)) * (x ^ t % ((prN q : Nat) : Int)))) from lI_add (psm fa x t % ((prN q : Nat) : Int)) ((((fa t).toInt) % ((prN q : Nat) : Int)) * (x ^ t % ((prN q : Nat) : Int))))) ?_
          refine lv_lload hx hb dX4_sumOf_76 (lv_at hl 4 rfl) ?_
          refine lv_lrem hx hb dX4_sumOf_78 (fun zq9 => absurd ((lI_eq (b := 0) (by omega) (by omega) (by omega) (by omega)).mp zq9) (by omega)) ?_
          refine W.eq (congrArg (fun z => F0 m _ ls (.long z :: _)) (show lI ((psm fa x t % ((prN q : Nat) : Int)) + ((((fa t).toInt) % ((prN q : Nat) : Int)) * (x ^ t % ((prN q : Nat) : Int)))) - lI ((psm fa x t % ((prN q : Nat) : Int)) + ((((fa t).toInt) % ((prN q : Nat) : Int)) * (x ^ t % ((prN q : Nat) : Int)))) / lI ((prN q : Nat) : Int) * lI ((prN q : Nat) : Int) = lI (((psm fa x t % ((prN q : Nat) : Int)) + ((((fa t).toInt) % ((prN q : Nat) : Int)) * (x ^ t % ((prN q : Nat) : Int)))) % ((prN q : Nat) : Int)) from lI_rem0 (by omega) (by omega) (by omega) (by omega))) ?_
          refine W.eq (congrArg (fun z => F0 m _ ls (.long z :: _)) (show lI (((psm fa x t % ((prN q : Nat) : Int)) + ((((fa t).toInt) % ((prN q : Nat) : Int)) * (x ^ t % ((prN q : Nat) : Int)))) % ((prN q : Nat) : Int)) = lI (psm fa x (t + 1) % ((prN q : Nat) : Int)) from congrArg lI psm_step)) ?_
          refine lv_lstore (lv' := [(10, .long (lI (psm fa x (t + 1) % ((prN q : Nat) : Int)))), (12, .int (nI t)), (8, .long (lI (x ^ t % ((prN q : Nat) : Int)))), (6, .long (lI x)), (4, .long (lI ((prN q : Nat) : Int))), (0, .ref mo)]) hx hb dX4_sumOf_79 hl (by decide) rfl (fun ls hl => ?_)
          refine lv_lload hx hb dX4_sumOf_81 (lv_at hl 2 rfl) ?_
          refine lv_lload hx hb dX4_sumOf_83 (lv_at hl 3 rfl) ?_
          refine lv_lmul hx hb dX4_sumOf_85 ?_
          refine W.eq (congrArg (fun z => F0 m _ ls (.long z :: _)) (show lI (x ^ t % ((prN q : Nat) : Int)) * lI x = lI ((x ^ t % ((prN q : Nat) : Int)) * x) from lI_mul (x ^ t % ((prN q : Nat) : Int)) x)) ?_
          refine lv_lload hx hb dX4_sumOf_86 (lv_at hl 4 rfl) ?_
          refine lv_lrem hx hb dX4_sumOf_88 (fun zq9 => absurd ((lI_eq (b := 0) (by omega) (by omega) (by omega) (by omega)).mp zq9) (by omega)) ?_
          refine W.eq (congrArg (fun z => F0 m _ ls (.long z :: _)) (show lI ((x ^ t % ((prN q : Nat) : Int)) * x) - lI ((x ^ t % ((prN q : Nat) : Int)) * x) / lI ((prN q : Nat) : Int) * lI ((prN q : Nat) : Int) = lI (((x ^ t % ((prN q : Nat) : Int)) * x) % ((prN q : Nat) : Int)) from lI_rem0 (by omega) (by omega) (by omega) (by omega))) ?_
          refine W.eq (congrArg (fun z => F0 m _ ls (.long z :: _)) (show lI (((x ^ t % ((prN q : Nat) : Int)) * x) % ((prN q : Nat) : Int)) = lI (x ^ (t + 1) % ((prN q : Nat) : Int)) from congrArg lI pow_step)) ?_
          refine lv_lstore (lv' := [(8, .long (lI (x ^ (t + 1) % ((prN q : Nat) : Int)))), (10, .long (lI (psm fa x (t + 1) % ((prN q : Nat) : Int)))), (12, .int (nI t)), (6, .long (lI x)), (4, .long (lI ((prN q : Nat) : Int))), (0, .ref mo)]) hx hb dX4_sumOf_89 hl (by decide) rfl (fun ls hl => ?_)
          refine lv_iinc (v := nI (t + 1)) (lv' := [(12, .int (nI (t + 1))), (8, .long (lI (x ^ (t + 1) % ((prN q : Nat) : Int)))), (10, .long (lI (psm fa x (t + 1) % ((prN q : Nat) : Int)))), (6, .long (lI x)), (4, .long (lI ((prN q : Nat) : Int))), (0, .ref mo)]) hx hb dX4_sumOf_91 hl (k := 2) rfl (nI_add t 1) (by decide) rfl (fun ls hl => ?_)
          refine lv_goto (tgt := 48) hx hb dX4_sumOf_94 (by decide) ?_
          exact ih_48  (t + 1) (by omega) (by omega) _ _ _ (hP.sub [0, 1] rfl) (hD.sub [0, 1] (by decide) rfl) hS (lv_sub hl [0, 2, 1, 3, 4, 5] rfl)
    exact key_48 (2 ^ k + 1) 0 (by omega) (by omega) _ _ _ (hP.sub [1, 0] rfl) (hD.sub [1, 0] (by decide) rfl) hS (lv_sub hl [0, 1, 2, 3, 4, 5] rfl)

abbrev q_X4_value_ok (dC : Nat → ClassId) (dI : Nat → Nat → Nat) (mo ma mb lo hi kp ot su k rs : Nat) (tv : Int32) (cI : ClassId) (fa : Nat → Int32) (q j : Nat) (A : Nat → Prop) : Array Value → State → Outcome → State → Prop := va_Qi (fun (r : Int32) (u : Unit) => r = iI (psm fa (frW k (prN q) ^ j % (prN q : Int)) (2 ^ k) % (prN q : Int))) (fun u t => va_P (dC, dI) vwCl [(mo, .inr (3, [.int (nI 0), .int (nI (2 ^ k)), .ref ma, .ref mb, .int (nI rs), .ref lo, .ref hi, .ref kp, .ref ot, .ref su])), (ma, .inl (cI, 256, .inl fa))] t.heap ∧ va_D A [(mo, .inr (3, [.int (nI 0), .int (nI (2 ^ k)), .ref ma, .ref mb, .int (nI rs), .ref lo, .ref hi, .ref kp, .ref ot, .ref su])), (ma, .inl (cI, 256, .inl fa))]) A
set_option maxHeartbeats 4000000 in
set_option maxRecDepth 100000 in
theorem c_X4_value_ok (l : Launch) (dC : Nat → ClassId) (dI : Nat → Nat → Nat) (mo ma mb lo hi kp ot su k rs : Nat) (tv : Int32) (cI : ClassId) (fa : Nat → Int32) (q j : Nat) (sz : Nat) (zk1 : 1 ≤ k) (zk : k ≤ 8) (zq : q < 3) (zj : j < 2 ^ k) : Met l yX4_value wsX4_value ({ frames := 3, cells := 0, slots := 0, locals := 86 }) (va_Pc [.ref mo, .int (nI q), .int (nI j)] (fun U => U.heap.size = sz ∧ va_P (dC, dI) vwCl [(mo, .inr (3, [.int tv, .int (nI (2 ^ k)), .ref ma, .ref mb, .int (nI rs), .ref lo, .ref hi, .ref kp, .ref ot, .ref su])), (ma, .inl (cI, 256, .inl fa))] U.heap ∧ va_K (dC, dI) vwCl [(cI, .int)] U ∧ va_D (fun _ => True) [(mo, .inr (3, [.int tv, .int (nI (2 ^ k)), .ref ma, .ref mb, .int (nI rs), .ref lo, .ref hi, .ref kp, .ref ot, .ref su])), (ma, .inl (cI, 256, .inl fa))])) (q_X4_value_ok dC dI mo ma mb lo hi kp ot su k rs tv cI fa q j (va_A [(mo, .inr (3, [.int tv, .int (nI (2 ^ k)), .ref ma, .ref mb, .int (nI rs), .ref lo, .ref hi, .ref kp, .ref ot, .ref su])), (ma, .inl (cI, 256, .inl fa))] sz)) 0 0 (va_A [(mo, .inr (3, [.int tv, .int (nI (2 ^ k)), .ref ma, .ref mb, .int (nI rs), .ref lo, .ref hi, .ref kp, .ref ot, .ref su])), (ma, .inl (cI, 256, .inl fa))] sz) := by
  refine Met.ofW (cc := cX4_value) (maxL := 3) (ret := (some .int)) (by decide) rfl ?_
  intro p e s m args below meth c s₁ B hml hv
  obtain ⟨rfl, hsz, hP, hK, hD0⟩ := hv
  have hx := B.exec
  have hb := B.bytes
  have hr := B.returns
  have hts := atoms_spec (ws := wsX4_value) B.pre
  have hown : s.vm.findClass RX4 = some m.cls := findClass_of_methodNamed B.named
  have hlocks := B.notSynchronized
  subst hsz
  have hD := hD0.self (sz := s.heap.size)
  generalize hAe : va_A [(mo, .inr (3, [.int tv, .int (nI (2 ^ k)), .ref ma, .ref mb, .int (nI rs), .ref lo, .ref hi, .ref kp, .ref ot, .ref su])), (ma, .inl (cI, 256, .inl fa))] s.heap.size = A at hD ⊢
  have hA : ∀ q : Nat, s.heap.size ≤ q → A q := fun q h => by rw [← hAe]; exact Or.inr h
  have hS : va_S A s.heap s.heap [] := va_S.rf
  have hP : va_P (dC, dI) vwCl [(mo, .inr (3, [.int tv, .int (nI (2 ^ k)), .ref ma, .ref mb, .int (nI rs), .ref lo, .ref hi, .ref kp, .ref ot, .ref su])), (ma, .inl (cI, 256, .inl fa))] s.heap := hP
  have hl := lv_entry (([.ref mo, .int (nI q), .int (nI j)] : List Value)) (n := 3) (Nat.le_of_ble_eq_true rfl)
  rw [lg_entry_eq]
  generalize (lg_sl (([.ref mo, .int (nI q), .int (nI j)] : List Value)) ++ List.replicate (3 - (lg_sl (([.ref mo, .int (nI q), .int (nI j)] : List Value))).length) Slot.unset).toArray = ls at hl ⊢
  have hl : lv_has ls 3 [(0, .ref mo), (1, .int (nI q)), (2, .int (nI j))] := hl
  obtain ⟨H, hHe⟩ : ∃ H : Heap, H = s.heap := ⟨_, rfl⟩
  rw [← hHe] at hP
  have hS : va_S A s.heap H [] := by rw [hHe]; exact hS
  obtain ⟨locs, hlo⟩ : ∃ L : List Loc, L = [] := ⟨_, rfl⟩
  rw [← hlo] at hS ⊢
  rw [← hHe]
  have hpk := pw8 zk
  refine lv_aload_n hx hb dX4_value_0 rfl (lv_at hl 0 rfl) ?_
  refine lv_iload_n hx hb dX4_value_1 rfl (lv_at hl 1 rfl) ?_
  have hPc := hP.sub (ws' := []) [] rfl
  have hDc := hD.sub (ws' := []) [] (by decide) rfl
  have hKc := hK.sub (tys' := []) [] rfl
  have hFc := va_free (wc := []) hD hS hA [] rfl
  refine va_calli (va_runS (As := [.int (nI q)]) (rest := [.ref mo]) ⟨hx, hb, hml, hown, hts⟩ (c_X4_noPrime_ok l dC dI q H.size (by omega)) (va_cwS 1 hts gX4_value_X4_noPrime rfl rfl rfl (by decide +kernel) ⟨Nat.le_of_ble_eq_true rfl, Nat.le_of_ble_eq_true rfl⟩) ⟨fun a U g mk q => by obtain ⟨q0, q1, qP, qK, qD⟩ := q; exact ⟨q0, q1, qP, va_K.moved (u := U) (U := U.calling g mk a) (Vm.Alike.refl U.vm) qK, qD⟩, fun U hU hW => ⟨rfl, by rw [hU], by rw [hU]; exact hPc, va_K.moved hW.alike hKc, hDc.weaken (fun _ _ _ _ => trivial)⟩⟩ rfl rfl hl.1 rfl (lv_room (Nat.le_of_ble_eq_true rfl)) dX4_value_2 ⟨Nat.le_of_ble_eq_true rfl, Nat.le_of_ble_eq_true rfl⟩) hS (fun q _ h => hFc q h) hFc (fun r9 u9 t9 H1 locs ht hvm hw hB hz1 hk1 hS => ?_)
  obtain ⟨hP1, hD1⟩ := hB
  rw [ht] at hP1
  try dsimp only at hw
  obtain ⟨hP, hD⟩ := va_join (wr := [(mo, .inr (3, [.int tv, .int (nI (2 ^ k)), .ref ma, .ref mb, .int (nI rs), .ref lo, .ref hi, .ref kp, .ref ot, .ref su])), (ma, .inl (cI, 256, .inl fa))]) (w1 := []) hP hD [] [0, 1] rfl rfl (by decide) (by decide) hk1 hFc hP1 hD1
  generalize H1 = H at hP hS ⊢
  have hP : va_P (dC, dI) vwCl [(mo, .inr (3, [.int tv, .int (nI (2 ^ k)), .ref ma, .ref mb, .int (nI rs), .ref lo, .ref hi, .ref kp, .ref ot, .ref su])), (ma, .inl (cI, 256, .inl fa))] H := hP
  have hD : va_D A [(mo, .inr (3, [.int tv, .int (nI (2 ^ k)), .ref ma, .ref mb, .int (nI rs), .ref lo, .ref hi, .ref kp, .ref ot, .ref su])), (ma, .inl (cI, 256, .inl fa))] := hD
  clear hPc hDc hKc hFc hP1 hD1 hk1 hz1 hvm ht
  subst hw
  refine lv_if_eq (tgt := 12) hx hb dX4_value_5 (by decide) (fun c_1 => ?_) (fun c_1 => ?_)
  · have c_1 : 0 = 0 := (nI_eq (a := 0) (b := 0) (by omega) (by omega)).mp c_1
    refine lv_iload_n hx hb dX4_value_12 rfl (lv_at hl 2 rfl) ?_
    refine lv_if_lt (tgt := 24) hx hb dX4_value_13 (by decide) (fun c_2 => ?_) (fun c_2 => ?_)
    · have c_2 : j < 0 := (nI_ltI (a := j) (b := 0) (by omega) (by omega)).mp c_2
      omega
    · have c_2 : ¬ (j < 0) := fun zq9 => c_2 ((nI_ltI (a := j) (b := 0) (by omega) (by omega)).mpr zq9)
      refine lv_iload_n hx hb dX4_value_16 rfl (lv_at hl 2 rfl) ?_
      refine lv_aload_n hx hb dX4_value_17 rfl (lv_at hl 0 rfl) ?_
      refine va_get (D := (dC, dI)) (ci := 3) (v := .int (nI (2 ^ k))) (C := RX4) (T := TX4) (N := 10) hx hb hts (by decide +kernel) hown hK hP 0 rfl rfl 1 (by decide) (hts (.fieldLink RX4 7 "ThreePrimesModel" "n" "I") (by decide +kernel)) (fun _ h9 => h9) rfl dX4_value_18 ?_
      refine lv_icmp_lt (tgt := 28) hx hb dX4_value_21 (by decide) (fun c_3 => ?_) (fun c_3 => ?_)
      · have c_3 : j < 2 ^ k := (nI_ltI (a := j) (b := 2 ^ k) (by omega) (by omega)).mp c_3
        refine lv_iconst (v := nI 0) hx hb dX4_value_28 (by decide) ?_
        refine va_put (D := (dC, dI)) (ci := 3) (v := .int (nI 0)) (ty := .int) (C := RX4) (T := TX4) (N := 10) hx hb hts (by decide +kernel) tyX4 tyX4_ok nmX4 hown hK hP hD hS 0 rfl rfl 0 (by decide) (hts (.fieldLink RX4 36 "ThreePrimesModel" "thrown" "I") (by decide +kernel)) (fun _ h9 => h9) rfl (by decide +kernel) rfl rfl (Nat.le_of_ble_eq_true rfl) dX4_value_29 (fun H locs hP hD hS => ?_)
        have hP : va_P (dC, dI) vwCl [(mo, .inr (3, [.int (nI 0), .int (nI (2 ^ k)), .ref ma, .ref mb, .int (nI rs), .ref lo, .ref hi, .ref kp, .ref ot, .ref su])), (ma, .inl (cI, 256, .inl fa))] H := hP
        have hD : va_D A [(mo, .inr (3, [.int (nI 0), .int (nI (2 ^ k)), .ref ma, .ref mb, .int (nI rs), .ref lo, .ref hi, .ref kp, .ref ot, .ref su])), (ma, .inl (cI, 256, .inl fa))] := hD
        refine lv_aload_n hx hb dX4_value_32 rfl (lv_at hl 0 rfl) ?_
        refine va_get (D := (dC, dI)) (ci := 3) (v := .int (nI 0)) (C := RX4) (T := TX4) (N := 10) hx hb hts (by decide +kernel) hown hK hP 0 rfl rfl 0 (by decide) (hts (.fieldLink RX4 36 "ThreePrimesModel" "thrown" "I") (by decide +kernel)) (fun _ h9 => h9) rfl dX4_value_33 ?_
        refine lv_if_le (tgt := 43) hx hb dX4_value_36 (by decide) (fun c_4 => ?_) (fun c_4 => ?_)
        · have c_4 : 0 ≤ 0 := (nI_leI (a := 0) (b := 0) (by omega) (by omega)).mp c_4
          refine lv_aload_n hx hb dX4_value_43 rfl (lv_at hl 0 rfl) ?_
          refine lv_iload_n hx hb dX4_value_44 rfl (lv_at hl 1 rfl) ?_
          refine lv_iload_n hx hb dX4_value_45 rfl (lv_at hl 2 rfl) ?_
          refine lv_iconst (v := nI 0) hx hb dX4_value_46 (by decide) ?_
          have hPc := hP.sub (ws' := [(mo, .inr (3, [.int (nI 0), .int (nI (2 ^ k)), .ref ma, .ref mb, .int (nI rs), .ref lo, .ref hi, .ref kp, .ref ot, .ref su])), (ma, .inl (cI, 256, .inl fa))]) [0, 1] rfl
          have hDc := hD.sub (ws' := [(mo, .inr (3, [.int (nI 0), .int (nI (2 ^ k)), .ref ma, .ref mb, .int (nI rs), .ref lo, .ref hi, .ref kp, .ref ot, .ref su])), (ma, .inl (cI, 256, .inl fa))]) [0, 1] (by decide) rfl
          have hKc := hK.sub (tys' := [(cI, .int)]) [0] rfl
          have hFc := va_free (wc := [(mo, .inr (3, [.int (nI 0), .int (nI (2 ^ k)), .ref ma, .ref mb, .int (nI rs), .ref lo, .ref hi, .ref kp, .ref ot, .ref su])), (ma, .inl (cI, 256, .inl fa))]) hD hS hA [0, 1] rfl
          refine va_calll (va_runV (As := [.int (nI q), .int (nI j), .int (nI 0)]) (rest := []) ⟨hx, hb, hml, hown, hts⟩ (c_X4_sumOf_0 l dC dI mo ma mb lo hi kp ot su k rs (nI 0) cI fa q j H.size (by omega) (by omega) (by omega) (by omega)) (cwV 3 hts gX4_value_X4_sumOf rfl rfl rfl (by decide +kernel) ⟨Nat.le_of_ble_eq_true rfl, Nat.le_of_ble_eq_true rfl⟩) ⟨fun a U g mk q => by obtain ⟨q0, q1, qP, qK, qD⟩ := q; exact ⟨q0, q1, qP, va_K.moved (u := U) (U := U.calling g mk a) (Vm.Alike.refl U.vm) qK, qD⟩, va_recv hKc hPc (ci := 3) (q0 := 0) rfl rfl, fun U hU hW => ⟨rfl, by rw [hU], by rw [hU]; exact hPc, va_K.moved hW.alike hKc, hDc.weaken (fun _ _ _ _ => trivial)⟩⟩ rfl rfl hl.1 rfl (lv_room (Nat.le_of_ble_eq_true rfl)) dX4_value_47 ⟨Nat.le_of_ble_eq_true rfl, Nat.le_of_ble_eq_true rfl⟩) hS (fun q _ h => hFc q h) hFc (fun r9 u9 t9 H1 locs ht hvm hw hB hz1 hk1 hS => ?_)
          obtain ⟨hP1, hD1⟩ := hB
          rw [ht] at hP1
          try dsimp only at hw
          obtain ⟨hP, hD⟩ := va_join (wr := []) (w1 := [(mo, .inr (3, [.int (nI 0), .int (nI (2 ^ k)), .ref ma, .ref mb, .int (nI rs), .ref lo, .ref hi, .ref kp, .ref ot, .ref su])), (ma, .inl (cI, 256, .inl fa))]) hP hD [0, 1] [] rfl rfl (by decide) (by decide) hk1 hFc hP1 hD1
          generalize H1 = H at hP hS ⊢
          have hP : va_P (dC, dI) vwCl [(mo, .inr (3, [.int (nI 0), .int (nI (2 ^ k)), .ref ma, .ref mb, .int (nI rs), .ref lo, .ref hi, .ref kp, .ref ot, .ref su])), (ma, .inl (cI, 256, .inl fa))] H := hP
          have hD : va_D A [(mo, .inr (3, [.int (nI 0), .int (nI (2 ^ k)), .ref ma, .ref mb, .int (nI rs), .ref lo, .ref hi, .ref kp, .ref ot, .ref su])), (ma, .inl (cI, 256, .inl fa))] := hD
          clear hPc hDc hKc hFc hP1 hD1 hk1 hz1 hvm ht
          subst hw
          refine lv_l2i (v := iI (psm fa (frW k (prN q) ^ j % (prN q : Int)) (2 ^ k) % (prN q : Int))) hx hb dX4_value_50 (lI_i (psm fa (frW k (prN q) ^ j % (prN q : Int)) (2 ^ k) % (prN q : Int))) ?_
          have hP9 : va_P (dC, dI) vwCl [(mo, .inr (3, [.int (nI 0), .int (nI (2 ^ k)), .ref ma, .ref mb, .int (nI rs), .ref lo, .ref hi, .ref kp, .ref ot, .ref su])), (ma, .inl (cI, 256, .inl fa))] H := hP.sub [0, 1] rfl
          have hD9 : va_D A [(mo, .inr (3, [.int (nI 0), .int (nI (2 ^ k)), .ref ma, .ref mb, .int (nI rs), .ref lo, .ref hi, .ref kp, .ref ot, .ref su])), (ma, .inl (cI, 256, .inl fa))] := hD.sub [0, 1] (by decide) rfl
          exact W.iret (v := iI (psm fa (frW k (prN q) ^ j % (prN q : Int)) (2 ^ k) % (prN q : Int))) hx hb hr (fun tq9 ht hW => ⟨⟨iI (psm fa (frW k (prN q) ^ j % (prN q : Int)) (2 ^ k) % (prN q : Int)), (), rfl, rfl, by rw [ht]; exact hP9, hD9⟩, hS.F ht⟩) hS.2.2 dX4_value_51
        · have c_4 : ¬ (0 ≤ 0) := fun zq9 => c_4 ((nI_leI (a := 0) (b := 0) (by omega) (by omega)).mpr zq9)
          omega
      · have c_3 : ¬ (j < 2 ^ k) := fun zq9 => c_3 ((nI_ltI (a := j) (b := 2 ^ k) (by omega) (by omega)).mpr zq9)
        omega
  · have c_1 : ¬ (0 = 0) := fun zq9 => c_1 ((nI_eq (a := 0) (b := 0) (by omega) (by omega)).mpr zq9)
    omega

abbrev q_X4_back_ok (dC : Nat → ClassId) (dI : Nat → Nat → Nat) (mo ma mb lo hi kp ot su k rs : Nat) (tv : Int32) (cI : ClassId) (fa : Nat → Int32) (q j : Nat) (A : Nat → Prop) : Array Value → State → Outcome → State → Prop := va_Qi (fun (r : Int32) (u : Unit) => r = iI ((psm fa (frW k (prN q) ^ ((2 ^ k - j) % 2 ^ k) % (prN q : Int)) (2 ^ k) % (prN q : Int)) * (((2 ^ k : Nat) : Int) ^ (prN q - 2) % (prN q : Int)) % (prN q : Int))) (fun u t => va_P (dC, dI) vwCl [(mo, .inr (3, [.int (nI 0), .int (nI (2 ^ k)), .ref ma, .ref mb, .int (nI rs), .ref lo, .ref hi, .ref kp, .ref ot, .ref su])), (ma, .inl (cI, 256, .inl fa))] t.heap ∧ va_D A [(mo, .inr (3, [.int (nI 0), .int (nI (2 ^ k)), .ref ma, .ref mb, .int (nI rs), .ref lo, .ref hi, .ref kp, .ref ot, .ref su])), (ma, .inl (cI, 256, .inl fa))]) A
set_option maxHeartbeats 4000000 in
set_option maxRecDepth 100000 in
theorem c_X4_back_ok (l : Launch) (dC : Nat → ClassId) (dI : Nat → Nat → Nat) (mo ma mb lo hi kp ot su k rs : Nat) (tv : Int32) (cI : ClassId) (fa : Nat → Int32) (q j : Nat) (sz : Nat) (zk1 : 1 ≤ k) (zk : k ≤ 8) (zq : q < 3) (zj : j < 2 ^ k) : Met l yX4_back wsX4_back ({ frames := 3, cells := 0, slots := 0, locals := 86 }) (va_Pc [.ref mo, .int (nI q), .int (nI j)] (fun U => U.heap.size = sz ∧ va_P (dC, dI) vwCl [(mo, .inr (3, [.int tv, .int (nI (2 ^ k)), .ref ma, .ref mb, .int (nI rs), .ref lo, .ref hi, .ref kp, .ref ot, .ref su])), (ma, .inl (cI, 256, .inl fa))] U.heap ∧ va_K (dC, dI) vwCl [(cI, .int)] U ∧ va_D (fun _ => True) [(mo, .inr (3, [.int tv, .int (nI (2 ^ k)), .ref ma, .ref mb, .int (nI rs), .ref lo, .ref hi, .ref kp, .ref ot, .ref su])), (ma, .inl (cI, 256, .inl fa))])) (q_X4_back_ok dC dI mo ma mb lo hi kp ot su k rs tv cI fa q j (va_A [(mo, .inr (3, [.int tv, .int (nI (2 ^ k)), .ref ma, .ref mb, .int (nI rs), .ref lo, .ref hi, .ref kp, .ref ot, .ref su])), (ma, .inl (cI, 256, .inl fa))] sz)) 0 0 (va_A [(mo, .inr (3, [.int tv, .int (nI (2 ^ k)), .ref ma, .ref mb, .int (nI rs), .ref lo, .ref hi, .ref kp, .ref ot, .ref su])), (ma, .inl (cI, 256, .inl fa))] sz) := by
  refine Met.ofW (cc := cX4_back) (maxL := 5) (ret := (some .int)) (by decide) rfl ?_
  intro p e s m args below meth c s₁ B hml hv
  obtain ⟨rfl, hsz, hP, hK, hD0⟩ := hv
  have hx := B.exec
  have hb := B.bytes
  have hr := B.returns
  have hts := atoms_spec (ws := wsX4_back) B.pre
  have hown : s.vm.findClass RX4 = some m.cls := findClass_of_methodNamed B.named
  have hlocks := B.notSynchronized
  subst hsz
  have hD := hD0.self (sz := s.heap.size)
  generalize hAe : va_A [(mo, .inr (3, [.int tv, .int (nI (2 ^ k)), .ref ma, .ref mb, .int (nI rs), .ref lo, .ref hi, .ref kp, .ref ot, .ref su])), (ma, .inl (cI, 256, .inl fa))] s.heap.size = A at hD ⊢
  have hA : ∀ q : Nat, s.heap.size ≤ q → A q := fun q h => by rw [← hAe]; exact Or.inr h
  have hS : va_S A s.heap s.heap [] := va_S.rf
  have hP : va_P (dC, dI) vwCl [(mo, .inr (3, [.int tv, .int (nI (2 ^ k)), .ref ma, .ref mb, .int (nI rs), .ref lo, .ref hi, .ref kp, .ref ot, .ref su])), (ma, .inl (cI, 256, .inl fa))] s.heap := hP
  have hl := lv_entry (([.ref mo, .int (nI q), .int (nI j)] : List Value)) (n := 5) (Nat.le_of_ble_eq_true rfl)
  rw [lg_entry_eq]
  generalize (lg_sl (([.ref mo, .int (nI q), .int (nI j)] : List Value)) ++ List.replicate (5 - (lg_sl (([.ref mo, .int (nI q), .int (nI j)] : List Value))).length) Slot.unset).toArray = ls at hl ⊢
  have hl : lv_has ls 5 [(0, .ref mo), (1, .int (nI q)), (2, .int (nI j))] := hl
  obtain ⟨H, hHe⟩ : ∃ H : Heap, H = s.heap := ⟨_, rfl⟩
  rw [← hHe] at hP
  have hS : va_S A s.heap H [] := by rw [hHe]; exact hS
  obtain ⟨locs, hlo⟩ : ∃ L : List Loc, L = [] := ⟨_, rfl⟩
  rw [← hlo] at hS ⊢
  rw [← hHe]
  have hpk := pw8 zk
  have hpr := prN_b q
  have h1 := emod_rng (psm fa (frW k (prN q) ^ ((2 ^ k - j) % 2 ^ k) % (prN q : Int)) (2 ^ k)) (show (0 : Int) < prN q by omega)
  have h2 := emod_rng (((2 ^ k : Nat) : Int) ^ (prN q - 2)) (show (0 : Int) < prN q by omega)
  have h3 := mul_b30 h1.1 h1.2 h2.1 h2.2 (by omega)
  refine lv_aload_n hx hb dX4_back_0 rfl (lv_at hl 0 rfl) ?_
  refine lv_iload_n hx hb dX4_back_1 rfl (lv_at hl 1 rfl) ?_
  have hPc := hP.sub (ws' := []) [] rfl
  have hDc := hD.sub (ws' := []) [] (by decide) rfl
  have hKc := hK.sub (tys' := []) [] rfl
  have hFc := va_free (wc := []) hD hS hA [] rfl
  refine va_calli (va_runS (As := [.int (nI q)]) (rest := [.ref mo]) ⟨hx, hb, hml, hown, hts⟩ (c_X4_noPrime_ok l dC dI q H.size (by omega)) (va_cwS 1 hts gX4_back_X4_noPrime rfl rfl rfl (by decide +kernel) ⟨Nat.le_of_ble_eq_true rfl, Nat.le_of_ble_eq_true rfl⟩) ⟨fun a U g mk q => by obtain ⟨q0, q1, qP, qK, qD⟩ := q; exact ⟨q0, q1, qP, va_K.moved (u := U) (U := U.calling g mk a) (Vm.Alike.refl U.vm) qK, qD⟩, fun U hU hW => ⟨rfl, by rw [hU], by rw [hU]; exact hPc, va_K.moved hW.alike hKc, hDc.weaken (fun _ _ _ _ => trivial)⟩⟩ rfl rfl hl.1 rfl (lv_room (Nat.le_of_ble_eq_true rfl)) dX4_back_2 ⟨Nat.le_of_ble_eq_true rfl, Nat.le_of_ble_eq_true rfl⟩) hS (fun q _ h => hFc q h) hFc (fun r9 u9 t9 H1 locs ht hvm hw hB hz1 hk1 hS => ?_)
  obtain ⟨hP1, hD1⟩ := hB
  rw [ht] at hP1
  try dsimp only at hw
  obtain ⟨hP, hD⟩ := va_join (wr := [(mo, .inr (3, [.int tv, .int (nI (2 ^ k)), .ref ma, .ref mb, .int (nI rs), .ref lo, .ref hi, .ref kp, .ref ot, .ref su])), (ma, .inl (cI, 256, .inl fa))]) (w1 := []) hP hD [] [0, 1] rfl rfl (by decide) (by decide) hk1 hFc hP1 hD1
  generalize H1 = H at hP hS ⊢
  have hP : va_P (dC, dI) vwCl [(mo, .inr (3, [.int tv, .int (nI (2 ^ k)), .ref ma, .ref mb, .int (nI rs), .ref lo, .ref hi, .ref kp, .ref ot, .ref su])), (ma, .inl (cI, 256, .inl fa))] H := hP
  have hD : va_D A [(mo, .inr (3, [.int tv, .int (nI (2 ^ k)), .ref ma, .ref mb, .int (nI rs), .ref lo, .ref hi, .ref kp, .ref ot, .ref su])), (ma, .inl (cI, 256, .inl fa))] := hD
  clear hPc hDc hKc hFc hP1 hD1 hk1 hz1 hvm ht
  subst hw
  refine lv_if_eq (tgt := 12) hx hb dX4_back_5 (by decide) (fun c_1 => ?_) (fun c_1 => ?_)
  · have c_1 : 0 = 0 := (nI_eq (a := 0) (b := 0) (by omega) (by omega)).mp c_1
    refine lv_iload_n hx hb dX4_back_12 rfl (lv_at hl 2 rfl) ?_
    refine lv_if_lt (tgt := 24) hx hb dX4_back_13 (by decide) (fun c_2 => ?_) (fun c_2 => ?_)
    · have c_2 : j < 0 := (nI_ltI (a := j) (b := 0) (by omega) (by omega)).mp c_2
      omega
    · have c_2 : ¬ (j < 0) := fun zq9 => c_2 ((nI_ltI (a := j) (b := 0) (by omega) (by omega)).mpr zq9)
      refine lv_iload_n hx hb dX4_back_16 rfl (lv_at hl 2 rfl) ?_
      refine lv_aload_n hx hb dX4_back_17 rfl (lv_at hl 0 rfl) ?_
      refine va_get (D := (dC, dI)) (ci := 3) (v := .int (nI (2 ^ k))) (C := RX4) (T := TX4) (N := 10) hx hb hts (by decide +kernel) hown hK hP 0 rfl rfl 1 (by decide) (hts (.fieldLink RX4 7 "ThreePrimesModel" "n" "I") (by decide +kernel)) (fun _ h9 => h9) rfl dX4_back_18 ?_
      refine lv_icmp_lt (tgt := 28) hx hb dX4_back_21 (by decide) (fun c_3 => ?_) (fun c_3 => ?_)
      · have c_3 : j < 2 ^ k := (nI_ltI (a := j) (b := 2 ^ k) (by omega) (by omega)).mp c_3
        refine lv_iconst (v := nI 0) hx hb dX4_back_28 (by decide) ?_
        refine va_put (D := (dC, dI)) (ci := 3) (v := .int (nI 0)) (ty := .int) (C := RX4) (T := TX4) (N := 10) hx hb hts (by decide +kernel) tyX4 tyX4_ok nmX4 hown hK hP hD hS 0 rfl rfl 0 (by decide) (hts (.fieldLink RX4 36 "ThreePrimesModel" "thrown" "I") (by decide +kernel)) (fun _ h9 => h9) rfl (by decide +kernel) rfl rfl (Nat.le_of_ble_eq_true rfl) dX4_back_29 (fun H locs hP hD hS => ?_)
        have hP : va_P (dC, dI) vwCl [(mo, .inr (3, [.int (nI 0), .int (nI (2 ^ k)), .ref ma, .ref mb, .int (nI rs), .ref lo, .ref hi, .ref kp, .ref ot, .ref su])), (ma, .inl (cI, 256, .inl fa))] H := hP
        have hD : va_D A [(mo, .inr (3, [.int (nI 0), .int (nI (2 ^ k)), .ref ma, .ref mb, .int (nI rs), .ref lo, .ref hi, .ref kp, .ref ot, .ref su])), (ma, .inl (cI, 256, .inl fa))] := hD
        refine lv_aload_n hx hb dX4_back_32 rfl (lv_at hl 0 rfl) ?_
        refine va_get (D := (dC, dI)) (ci := 3) (v := .int (nI 0)) (C := RX4) (T := TX4) (N := 10) hx hb hts (by decide +kernel) hown hK hP 0 rfl rfl 0 (by decide) (hts (.fieldLink RX4 36 "ThreePrimesModel" "thrown" "I") (by decide +kernel)) (fun _ h9 => h9) rfl dX4_back_33 ?_
        refine lv_if_le (tgt := 41) hx hb dX4_back_36 (by decide) (fun c_4 => ?_) (fun c_4 => ?_)
        · have c_4 : 0 ≤ 0 := (nI_leI (a := 0) (b := 0) (by omega) (by omega)).mp c_4
          refine lv_iload_n hx hb dX4_back_41 rfl (lv_at hl 1 rfl) ?_
          have hPc := hP.sub (ws' := []) [] rfl
          have hDc := hD.sub (ws' := []) [] (by decide) rfl
          have hKc := hK.sub (tys' := []) [] rfl
          have hFc := va_free (wc := []) hD hS hA [] rfl
          refine va_calll (va_runS (As := [.int (nI q)]) (rest := []) ⟨hx, hb, hml, hown, hts⟩ (c_X4_prime l dC dI q H.size (by omega)) (va_cwS 1 hts gX4_back_X4_prime rfl rfl rfl (by decide +kernel) ⟨Nat.le_of_ble_eq_true rfl, Nat.le_of_ble_eq_true rfl⟩) ⟨fun a U g mk q => by obtain ⟨q0, q1, qP, qK, qD⟩ := q; exact ⟨q0, q1, qP, va_K.moved (u := U) (U := U.calling g mk a) (Vm.Alike.refl U.vm) qK, qD⟩, fun U hU hW => ⟨rfl, by rw [hU], by rw [hU]; exact hPc, va_K.moved hW.alike hKc, hDc.weaken (fun _ _ _ _ => trivial)⟩⟩ rfl rfl hl.1 rfl (lv_room (Nat.le_of_ble_eq_true rfl)) dX4_back_42 ⟨Nat.le_of_ble_eq_true rfl, Nat.le_of_ble_eq_true rfl⟩) hS (fun q _ h => hFc q h) hFc (fun r9 u9 t9 H1 locs ht hvm hw hB hz1 hk1 hS => ?_)
          obtain ⟨hP1, hD1⟩ := hB
          rw [ht] at hP1
          try dsimp only at hw
          obtain ⟨hP, hD⟩ := va_join (wr := [(mo, .inr (3, [.int (nI 0), .int (nI (2 ^ k)), .ref ma, .ref mb, .int (nI rs), .ref lo, .ref hi, .ref kp, .ref ot, .ref su])), (ma, .inl (cI, 256, .inl fa))]) (w1 := []) hP hD [] [0, 1] rfl rfl (by decide) (by decide) hk1 hFc hP1 hD1
          generalize H1 = H at hP hS ⊢
          have hP : va_P (dC, dI) vwCl [(mo, .inr (3, [.int (nI 0), .int (nI (2 ^ k)), .ref ma, .ref mb, .int (nI rs), .ref lo, .ref hi, .ref kp, .ref ot, .ref su])), (ma, .inl (cI, 256, .inl fa))] H := hP
          have hD : va_D A [(mo, .inr (3, [.int (nI 0), .int (nI (2 ^ k)), .ref ma, .ref mb, .int (nI rs), .ref lo, .ref hi, .ref kp, .ref ot, .ref su])), (ma, .inl (cI, 256, .inl fa))] := hD
          clear hPc hDc hKc hFc hP1 hD1 hk1 hz1 hvm ht
          subst hw
          refine lv_lstore_n (lv' := [(3, .long (lI ((prN q : Nat) : Int))), (0, .ref mo), (1, .int (nI q)), (2, .int (nI j))]) hx hb dX4_back_45 rfl hl (by decide) rfl (fun ls hl => ?_)
          refine lv_aload_n hx hb dX4_back_46 rfl (lv_at hl 1 rfl) ?_
          refine lv_iload_n hx hb dX4_back_47 rfl (lv_at hl 2 rfl) ?_
          refine lv_iload_n hx hb dX4_back_48 rfl (lv_at hl 3 rfl) ?_
          refine lv_iconst (v := nI 1) hx hb dX4_back_49 (by decide) ?_
          have hPc := hP.sub (ws' := [(mo, .inr (3, [.int (nI 0), .int (nI (2 ^ k)), .ref ma, .ref mb, .int (nI rs), .ref lo, .ref hi, .ref kp, .ref ot, .ref su])), (ma, .inl (cI, 256, .inl fa))]) [0, 1] rfl
          have hDc := hD.sub (ws' := [(mo, .inr (3, [.int (nI 0), .int (nI (2 ^ k)), .ref ma, .ref mb, .int (nI rs), .ref lo, .ref hi, .ref kp, .ref ot, .ref su])), (ma, .inl (cI, 256, .inl fa))]) [0, 1] (by decide) rfl
          have hKc := hK.sub (tys' := [(cI, .int)]) [0] rfl
          have hFc := va_free (wc := [(mo, .inr (3, [.int (nI 0), .int (nI (2 ^ k)), .ref ma, .ref mb, .int (nI rs), .ref lo, .ref hi, .ref kp, .ref ot, .ref su])), (ma, .inl (cI, 256, .inl fa))]) hD hS hA [0, 1] rfl
          refine va_calll (va_runV (As := [.int (nI q), .int (nI j), .int (nI 1)]) (rest := []) ⟨hx, hb, hml, hown, hts⟩ (c_X4_sumOf_1 l dC dI mo ma mb lo hi kp ot su k rs (nI 0) cI fa q j H.size (by omega) (by omega) (by omega) (by omega)) (cwV 3 hts gX4_back_X4_sumOf rfl rfl rfl (by decide +kernel) ⟨Nat.le_of_ble_eq_true rfl, Nat.le_of_ble_eq_true rfl⟩) ⟨fun a U g mk q => by obtain ⟨q0, q1, qP, qK, qD⟩ := q; exact ⟨q0, q1, qP, va_K.moved (u := U) (U := U.calling g mk a) (Vm.Alike.refl U.vm) qK, qD⟩, va_recv hKc hPc (ci := 3) (q0 := 0) rfl rfl, fun U hU hW => ⟨rfl, by rw [hU], by rw [hU]; exact hPc, va_K.moved hW.alike hKc, hDc.weaken (fun _ _ _ _ => trivial)⟩⟩ rfl rfl hl.1 rfl (lv_room (Nat.le_of_ble_eq_true rfl)) dX4_back_50 ⟨Nat.le_of_ble_eq_true rfl, Nat.le_of_ble_eq_true rfl⟩) hS (fun q _ h => hFc q h) hFc (fun r9 u9 t9 H1 locs ht hvm hw hB hz1 hk1 hS => ?_)
          obtain ⟨hP1, hD1⟩ := hB
          rw [ht] at hP1
          try dsimp only at hw
          obtain ⟨hP, hD⟩ := va_join (wr := []) (w1 := [(mo, .inr (3, [.int (nI 0), .int (nI (2 ^ k)), .ref ma, .ref mb, .int (nI rs), .ref lo, .ref hi, .ref kp, .ref ot, .ref su])), (ma, .inl (cI, 256, .inl fa))]) hP hD [0, 1] [] rfl rfl (by decide) (by decide) hk1 hFc hP1 hD1
          generalize H1 = H at hP hS ⊢
          have hP : va_P (dC, dI) vwCl [(mo, .inr (3, [.int (nI 0), .int (nI (2 ^ k)), .ref ma, .ref mb, .int (nI rs), .ref lo, .ref hi, .ref kp, .ref ot, .ref su])), (ma, .inl (cI, 256, .inl fa))] H := hP
          have hD : va_D A [(mo, .inr (3, [.int (nI 0), .int (nI (2 ^ k)), .ref ma, .ref mb, .int (nI rs), .ref lo, .ref hi, .ref kp, .ref ot, .ref su])), (ma, .inl (cI, 256, .inl fa))] := hD
          clear hPc hDc hKc hFc hP1 hD1 hk1 hz1 hvm ht
          subst hw
          refine lv_aload_n hx hb dX4_back_53 rfl (lv_at hl 1 rfl) ?_
          refine va_get (D := (dC, dI)) (ci := 3) (v := .int (nI (2 ^ k))) (C := RX4) (T := TX4) (N := 10) hx hb hts (by decide +kernel) hown hK hP 0 rfl rfl 1 (by decide) (hts (.fieldLink RX4 7 "ThreePrimesModel" "n" "I") (by decide +kernel)) (fun _ h9 => h9) rfl dX4_back_54 ?_
          refine lv_i2l (v := lI ((2 ^ k : Nat) : Int)) hx hb dX4_back_57 (nI_lI (by omega)) ?_
          refine lv_lload_n hx hb dX4_back_58 rfl (lv_at hl 0 rfl) ?_
          refine lv_ldc2 (own := RX4) (v := lI (2)) hx hb hown (hts (.constantLong RX4 77 (2)) (by decide +kernel)) dX4_back_59 ?_
          refine lv_lsub hx hb dX4_back_62 ?_
          refine W.eq (congrArg (fun z => F0 m _ ls (.long z :: _)) (show lI ((prN q : Nat) : Int) - lI 2 = lI (((prN q : Nat) : Int) - 2) from lI_sub ((prN q : Nat) : Int) 2)) ?_
          refine W.eq (congrArg (fun z => F0 m _ ls (.long z :: _)) (show lI (((prN q : Nat) : Int) - 2) = lI ((prN q - 2 : Nat) : Int) from congrArg lI (by omega))) ?_
          refine lv_lload_n hx hb dX4_back_63 rfl (lv_at hl 0 rfl) ?_
          have hPc := hP.sub (ws' := []) [] rfl
          have hDc := hD.sub (ws' := []) [] (by decide) rfl
          have hKc := hK.sub (tys' := []) [] rfl
          have hFc := va_free (wc := []) hD hS hA [] rfl
          refine va_calll (va_runS (As := [.long (lI ((2 ^ k : Nat) : Int)), .long (lI ((prN q - 2 : Nat) : Int)), .long (lI ((prN q : Nat) : Int))]) (rest := [.long (lI (psm fa (frW k (prN q) ^ ((2 ^ k - j) % 2 ^ k) % (prN q : Int)) (2 ^ k) % (prN q : Int)))]) ⟨hx, hb, hml, hown, hts⟩ (c_X4_raised l dC dI ((2 ^ k : Nat) : Int) (prN q - 2) (prN q) H.size (by omega) (by omega) (by omega) (by omega) (by omega)) (va_cwS 3 hts gX4_back_X4_raised rfl rfl rfl (by decide +kernel) ⟨Nat.le_of_ble_eq_true rfl, Nat.le_of_ble_eq_true rfl⟩) ⟨fun a U g mk q => by obtain ⟨q0, q1, qP, qK, qD⟩ := q; exact ⟨q0, q1, qP, va_K.moved (u := U) (U := U.calling g mk a) (Vm.Alike.refl U.vm) qK, qD⟩, fun U hU hW => ⟨rfl, by rw [hU], by rw [hU]; exact hPc, va_K.moved hW.alike hKc, hDc.weaken (fun _ _ _ _ => trivial)⟩⟩ rfl rfl hl.1 rfl (lv_room (Nat.le_of_ble_eq_true rfl)) dX4_back_64 ⟨Nat.le_of_ble_eq_true rfl, Nat.le_of_ble_eq_true rfl⟩) hS (fun q _ h => hFc q h) hFc (fun r9 u9 t9 H1 locs ht hvm hw hB hz1 hk1 hS => ?_)
          obtain ⟨hP1, hD1⟩ := hB
          rw [ht] at hP1
          try dsimp only at hw
          obtain ⟨hP, hD⟩ := va_join (wr := [(mo, .inr (3, [.int (nI 0), .int (nI (2 ^ k)), .ref ma, .ref mb, .int (nI rs), .ref lo, .ref hi, .ref kp, .ref ot, .ref su])), (ma, .inl (cI, 256, .inl fa))]) (w1 := []) hP hD [] [0, 1] rfl rfl (by decide) (by decide) hk1 hFc hP1 hD1
          generalize H1 = H at hP hS ⊢
          have hP : va_P (dC, dI) vwCl [(mo, .inr (3, [.int (nI 0), .int (nI (2 ^ k)), .ref ma, .ref mb, .int (nI rs), .ref lo, .ref hi, .ref kp, .ref ot, .ref su])), (ma, .inl (cI, 256, .inl fa))] H := hP
          have hD : va_D A [(mo, .inr (3, [.int (nI 0), .int (nI (2 ^ k)), .ref ma, .ref mb, .int (nI rs), .ref lo, .ref hi, .ref kp, .ref ot, .ref su])), (ma, .inl (cI, 256, .inl fa))] := hD
          clear hPc hDc hKc hFc hP1 hD1 hk1 hz1 hvm ht
          subst hw
          refine lv_lmul hx hb dX4_back_67 ?_
          refine W.eq (congrArg (fun z => F0 m _ ls (.long z :: _)) (show lI (psm fa (frW k (prN q) ^ ((2 ^ k - j) % 2 ^ k) % (prN q : Int)) (2 ^ k) % (prN q : Int)) * lI (((2 ^ k : Nat) : Int) ^ (prN q - 2) % ((prN q : Nat) : Int)) = lI ((psm fa (frW k (prN q) ^ ((2 ^ k - j) % 2 ^ k) % (prN q : Int)) (2 ^ k) % (prN q : Int)) * (((2 ^ k : Nat) : Int) ^ (prN q - 2) % ((prN q : Nat) : Int))) from lI_mul (psm fa (frW k (prN q) ^ ((2 ^ k - j) % 2 ^ k) % (prN q : Int)) (2 ^ k) % (prN q : Int)) (((2 ^ k : Nat) : Int) ^ (prN q - 2) % ((prN q : Nat) : Int)))) ?_
          refine lv_lload_n hx hb dX4_back_68 rfl (lv_at hl 0 rfl) ?_
          refine lv_lrem hx hb dX4_back_69 (fun zq9 => absurd ((lI_eq (b := 0) (by omega) (by omega) (by omega) (by omega)).mp zq9) (by omega)) ?_
          refine W.eq (congrArg (fun z => F0 m _ ls (.long z :: _)) (show lI ((psm fa (frW k (prN q) ^ ((2 ^ k - j) % 2 ^ k) % (prN q : Int)) (2 ^ k) % (prN q : Int)) * (((2 ^ k : Nat) : Int) ^ (prN q - 2) % ((prN q : Nat) : Int))) - lI ((psm fa (frW k (prN q) ^ ((2 ^ k - j) % 2 ^ k) % (prN q : Int)) (2 ^ k) % (prN q : Int)) * (((2 ^ k : Nat) : Int) ^ (prN q - 2) % ((prN q : Nat) : Int))) / lI ((prN q : Nat) : Int) * lI ((prN q : Nat) : Int) = lI (((psm fa (frW k (prN q) ^ ((2 ^ k - j) % 2 ^ k) % (prN q : Int)) (2 ^ k) % (prN q : Int)) * (((2 ^ k : Nat) : Int) ^ (prN q - 2) % ((prN q : Nat) : Int))) % ((prN q : Nat) : Int)) from lI_rem0 (by omega) (by omega) (by omega) (by omega))) ?_
          refine lv_l2i (v := iI (((psm fa (frW k (prN q) ^ ((2 ^ k - j) % 2 ^ k) % (prN q : Int)) (2 ^ k) % (prN q : Int)) * (((2 ^ k : Nat) : Int) ^ (prN q - 2) % ((prN q : Nat) : Int))) % ((prN q : Nat) : Int))) hx hb dX4_back_70 (lI_i (((psm fa (frW k (prN q) ^ ((2 ^ k - j) % 2 ^ k) % (prN q : Int)) (2 ^ k) % (prN q : Int)) * (((2 ^ k : Nat) : Int) ^ (prN q - 2) % ((prN q : Nat) : Int))) % ((prN q : Nat) : Int))) ?_
          have hP9 : va_P (dC, dI) vwCl [(mo, .inr (3, [.int (nI 0), .int (nI (2 ^ k)), .ref ma, .ref mb, .int (nI rs), .ref lo, .ref hi, .ref kp, .ref ot, .ref su])), (ma, .inl (cI, 256, .inl fa))] H := hP.sub [0, 1] rfl
          have hD9 : va_D A [(mo, .inr (3, [.int (nI 0), .int (nI (2 ^ k)), .ref ma, .ref mb, .int (nI rs), .ref lo, .ref hi, .ref kp, .ref ot, .ref su])), (ma, .inl (cI, 256, .inl fa))] := hD.sub [0, 1] (by decide) rfl
          exact W.iret (v := iI (((psm fa (frW k (prN q) ^ ((2 ^ k - j) % 2 ^ k) % (prN q : Int)) (2 ^ k) % (prN q : Int)) * (((2 ^ k : Nat) : Int) ^ (prN q - 2) % ((prN q : Nat) : Int))) % ((prN q : Nat) : Int))) hx hb hr (fun tq9 ht hW => ⟨⟨iI (((psm fa (frW k (prN q) ^ ((2 ^ k - j) % 2 ^ k) % (prN q : Int)) (2 ^ k) % (prN q : Int)) * (((2 ^ k : Nat) : Int) ^ (prN q - 2) % ((prN q : Nat) : Int))) % ((prN q : Nat) : Int)), (), rfl, rfl, by rw [ht]; exact hP9, hD9⟩, hS.F ht⟩) hS.2.2 dX4_back_71
        · have c_4 : ¬ (0 ≤ 0) := fun zq9 => c_4 ((nI_leI (a := 0) (b := 0) (by omega) (by omega)).mpr zq9)
          omega
      · have c_3 : ¬ (j < 2 ^ k) := fun zq9 => c_3 ((nI_ltI (a := j) (b := 2 ^ k) (by omega) (by omega)).mpr zq9)
        omega
  · have c_1 : ¬ (0 = 0) := fun zq9 => c_1 ((nI_eq (a := 0) (b := 0) (by omega) (by omega)).mpr zq9)
    omega

abbrev q_X4_value_badP (dC : Nat → ClassId) (dI : Nat → Nat → Nat) (mo ma mb lo hi kp ot su k rs : Nat) (tv : Int32) (i v : Int32) (A : Nat → Prop) : Array Value → State → Outcome → State → Prop := va_Qi (fun (r : Int32) (u : Unit) => True) (fun u t => va_P (dC, dI) vwCl [(mo, .inr (3, [.int (nI 1), .int (nI (2 ^ k)), .ref ma, .ref mb, .int (nI rs), .ref lo, .ref hi, .ref kp, .ref ot, .ref su]))] t.heap ∧ va_D A [(mo, .inr (3, [.int (nI 1), .int (nI (2 ^ k)), .ref ma, .ref mb, .int (nI rs), .ref lo, .ref hi, .ref kp, .ref ot, .ref su]))]) A
set_option maxHeartbeats 4000000 in
set_option maxRecDepth 100000 in
theorem c_X4_value_badP (l : Launch) (dC : Nat → ClassId) (dI : Nat → Nat → Nat) (mo ma mb lo hi kp ot su k rs : Nat) (tv : Int32) (i v : Int32) (sz : Nat) (hbad : i < 0 ∨ nI 3 ≤ i) : Met l yX4_value wsX4_value ({ frames := 1, cells := 0, slots := 0, locals := 20 }) (va_Pc [.ref mo, .int i, .int v] (fun U => U.heap.size = sz ∧ va_P (dC, dI) vwCl [(mo, .inr (3, [.int tv, .int (nI (2 ^ k)), .ref ma, .ref mb, .int (nI rs), .ref lo, .ref hi, .ref kp, .ref ot, .ref su]))] U.heap ∧ va_K (dC, dI) vwCl [] U ∧ va_D (fun _ => True) [(mo, .inr (3, [.int tv, .int (nI (2 ^ k)), .ref ma, .ref mb, .int (nI rs), .ref lo, .ref hi, .ref kp, .ref ot, .ref su]))])) (q_X4_value_badP dC dI mo ma mb lo hi kp ot su k rs tv i v (va_A [(mo, .inr (3, [.int tv, .int (nI (2 ^ k)), .ref ma, .ref mb, .int (nI rs), .ref lo, .ref hi, .ref kp, .ref ot, .ref su]))] sz)) 0 0 (va_A [(mo, .inr (3, [.int tv, .int (nI (2 ^ k)), .ref ma, .ref mb, .int (nI rs), .ref lo, .ref hi, .ref kp, .ref ot, .ref su]))] sz) := by
  refine Met.ofW (cc := cX4_value) (maxL := 3) (ret := (some .int)) (by decide) rfl ?_
  intro p e s m args below meth c s₁ B hml hv
  obtain ⟨rfl, hsz, hP, hK, hD0⟩ := hv
  have hx := B.exec
  have hb := B.bytes
  have hr := B.returns
  have hts := atoms_spec (ws := wsX4_value) B.pre
  have hown : s.vm.findClass RX4 = some m.cls := findClass_of_methodNamed B.named
  have hlocks := B.notSynchronized
  subst hsz
  have hD := hD0.self (sz := s.heap.size)
  generalize hAe : va_A [(mo, .inr (3, [.int tv, .int (nI (2 ^ k)), .ref ma, .ref mb, .int (nI rs), .ref lo, .ref hi, .ref kp, .ref ot, .ref su]))] s.heap.size = A at hD ⊢
  have hA : ∀ q : Nat, s.heap.size ≤ q → A q := fun q h => by rw [← hAe]; exact Or.inr h
  have hS : va_S A s.heap s.heap [] := va_S.rf
  have hP : va_P (dC, dI) vwCl [(mo, .inr (3, [.int tv, .int (nI (2 ^ k)), .ref ma, .ref mb, .int (nI rs), .ref lo, .ref hi, .ref kp, .ref ot, .ref su]))] s.heap := hP
  have hl := lv_entry (([.ref mo, .int i, .int v] : List Value)) (n := 3) (Nat.le_of_ble_eq_true rfl)
  rw [lg_entry_eq]
  generalize (lg_sl (([.ref mo, .int i, .int v] : List Value)) ++ List.replicate (3 - (lg_sl (([.ref mo, .int i, .int v] : List Value))).length) Slot.unset).toArray = ls at hl ⊢
  have hl : lv_has ls 3 [(0, .ref mo), (1, .int i), (2, .int v)] := hl
  obtain ⟨H, hHe⟩ : ∃ H : Heap, H = s.heap := ⟨_, rfl⟩
  rw [← hHe] at hP
  have hS : va_S A s.heap H [] := by rw [hHe]; exact hS
  obtain ⟨locs, hlo⟩ : ∃ L : List Loc, L = [] := ⟨_, rfl⟩
  rw [← hlo] at hS ⊢
  rw [← hHe]
  refine lv_aload_n hx hb dX4_value_0 rfl (lv_at hl 0 rfl) ?_
  refine lv_iload_n hx hb dX4_value_1 rfl (lv_at hl 1 rfl) ?_
  have hPc := hP.sub (ws' := []) [] rfl
  have hDc := hD.sub (ws' := []) [] (by decide) rfl
  have hKc := hK.sub (tys' := []) [] rfl
  have hFc := va_free (wc := []) hD hS hA [] rfl
  refine va_calli (va_runS (As := [.int i]) (rest := [.ref mo]) ⟨hx, hb, hml, hown, hts⟩ (c_X4_noPrime_bad l dC dI i H.size hbad) (va_cwS 1 hts gX4_value_X4_noPrime rfl rfl rfl (by decide +kernel) ⟨Nat.le_of_ble_eq_true rfl, Nat.le_of_ble_eq_true rfl⟩) ⟨fun a U g mk q => by obtain ⟨q0, q1, qP, qK, qD⟩ := q; exact ⟨q0, q1, qP, va_K.moved (u := U) (U := U.calling g mk a) (Vm.Alike.refl U.vm) qK, qD⟩, fun U hU hW => ⟨rfl, by rw [hU], by rw [hU]; exact hPc, va_K.moved hW.alike hKc, hDc.weaken (fun _ _ _ _ => trivial)⟩⟩ rfl rfl hl.1 rfl (lv_room (Nat.le_of_ble_eq_true rfl)) dX4_value_2 ⟨Nat.le_of_ble_eq_true rfl, Nat.le_of_ble_eq_true rfl⟩) hS (fun q _ h => hFc q h) hFc (fun r9 u9 t9 H1 locs ht hvm hw hB hz1 hk1 hS => ?_)
  obtain ⟨hP1, hD1⟩ := hB
  rw [ht] at hP1
  try dsimp only at hw
  obtain ⟨hP, hD⟩ := va_join (wr := [(mo, .inr (3, [.int tv, .int (nI (2 ^ k)), .ref ma, .ref mb, .int (nI rs), .ref lo, .ref hi, .ref kp, .ref ot, .ref su]))]) (w1 := []) hP hD [] [0] rfl rfl (by decide) (by decide) hk1 hFc hP1 hD1
  generalize H1 = H at hP hS ⊢
  have hP : va_P (dC, dI) vwCl [(mo, .inr (3, [.int tv, .int (nI (2 ^ k)), .ref ma, .ref mb, .int (nI rs), .ref lo, .ref hi, .ref kp, .ref ot, .ref su]))] H := hP
  have hD : va_D A [(mo, .inr (3, [.int tv, .int (nI (2 ^ k)), .ref ma, .ref mb, .int (nI rs), .ref lo, .ref hi, .ref kp, .ref ot, .ref su]))] := hD
  clear hPc hDc hKc hFc hP1 hD1 hk1 hz1 hvm ht
  subst hw
  refine lv_if_eq (tgt := 12) hx hb dX4_value_5 (by decide) (fun c_1 => ?_) (fun c_1 => ?_)
  · have c_1 : 1 = 0 := (nI_eq (a := 1) (b := 0) (by omega) (by omega)).mp c_1
    omega
  · have c_1 : ¬ (1 = 0) := fun zq9 => c_1 ((nI_eq (a := 1) (b := 0) (by omega) (by omega)).mpr zq9)
    refine lv_iconst (v := nI 1) hx hb dX4_value_8 (by decide) ?_
    refine lv_goto (tgt := 29) hx hb dX4_value_9 (by decide) ?_
    refine va_put (D := (dC, dI)) (ci := 3) (v := .int (nI 1)) (ty := .int) (C := RX4) (T := TX4) (N := 10) hx hb hts (by decide +kernel) tyX4 tyX4_ok nmX4 hown hK hP hD hS 0 rfl rfl 0 (by decide) (hts (.fieldLink RX4 36 "ThreePrimesModel" "thrown" "I") (by decide +kernel)) (fun _ h9 => h9) rfl (by decide +kernel) rfl rfl (Nat.le_of_ble_eq_true rfl) dX4_value_29 (fun H locs hP hD hS => ?_)
    have hP : va_P (dC, dI) vwCl [(mo, .inr (3, [.int (nI 1), .int (nI (2 ^ k)), .ref ma, .ref mb, .int (nI rs), .ref lo, .ref hi, .ref kp, .ref ot, .ref su]))] H := hP
    have hD : va_D A [(mo, .inr (3, [.int (nI 1), .int (nI (2 ^ k)), .ref ma, .ref mb, .int (nI rs), .ref lo, .ref hi, .ref kp, .ref ot, .ref su]))] := hD
    refine lv_aload_n hx hb dX4_value_32 rfl (lv_at hl 0 rfl) ?_
    refine va_get (D := (dC, dI)) (ci := 3) (v := .int (nI 1)) (C := RX4) (T := TX4) (N := 10) hx hb hts (by decide +kernel) hown hK hP 0 rfl rfl 0 (by decide) (hts (.fieldLink RX4 36 "ThreePrimesModel" "thrown" "I") (by decide +kernel)) (fun _ h9 => h9) rfl dX4_value_33 ?_
    refine lv_if_le (tgt := 43) hx hb dX4_value_36 (by decide) (fun c_2 => ?_) (fun c_2 => ?_)
    · have c_2 : 1 ≤ 0 := (nI_leI (a := 1) (b := 0) (by omega) (by omega)).mp c_2
      omega
    · have c_2 : ¬ (1 ≤ 0) := fun zq9 => c_2 ((nI_leI (a := 1) (b := 0) (by omega) (by omega)).mpr zq9)
      refine lv_iconst (v := nI 0) hx hb dX4_value_39 (by decide) ?_
      refine lv_goto (tgt := 51) hx hb dX4_value_40 (by decide) ?_
      have hP9 : va_P (dC, dI) vwCl [(mo, .inr (3, [.int (nI 1), .int (nI (2 ^ k)), .ref ma, .ref mb, .int (nI rs), .ref lo, .ref hi, .ref kp, .ref ot, .ref su]))] H := hP.sub [0] rfl
      have hD9 : va_D A [(mo, .inr (3, [.int (nI 1), .int (nI (2 ^ k)), .ref ma, .ref mb, .int (nI rs), .ref lo, .ref hi, .ref kp, .ref ot, .ref su]))] := hD.sub [0] (by decide) rfl
      exact W.iret (v := nI 0) hx hb hr (fun tq9 ht hW => ⟨⟨nI 0, (), rfl, trivial, by rw [ht]; exact hP9, hD9⟩, hS.F ht⟩) hS.2.2 dX4_value_51

abbrev q_X4_value_badI (dC : Nat → ClassId) (dI : Nat → Nat → Nat) (mo ma mb lo hi kp ot su k rs : Nat) (tv : Int32) (q : Nat) (i : Int32) (A : Nat → Prop) : Array Value → State → Outcome → State → Prop := va_Qi (fun (r : Int32) (u : Unit) => True) (fun u t => va_P (dC, dI) vwCl [(mo, .inr (3, [.int (nI 2), .int (nI (2 ^ k)), .ref ma, .ref mb, .int (nI rs), .ref lo, .ref hi, .ref kp, .ref ot, .ref su]))] t.heap ∧ va_D A [(mo, .inr (3, [.int (nI 2), .int (nI (2 ^ k)), .ref ma, .ref mb, .int (nI rs), .ref lo, .ref hi, .ref kp, .ref ot, .ref su]))]) A
set_option maxHeartbeats 4000000 in
set_option maxRecDepth 100000 in
theorem c_X4_value_badI (l : Launch) (dC : Nat → ClassId) (dI : Nat → Nat → Nat) (mo ma mb lo hi kp ot su k rs : Nat) (tv : Int32) (q : Nat) (i : Int32) (sz : Nat) (zk1 : 1 ≤ k) (zk : k ≤ 8) (zq : q < 3) (hbad : i < 0 ∨ nI (2 ^ k) ≤ i) : Met l yX4_value wsX4_value ({ frames := 1, cells := 0, slots := 0, locals := 20 }) (va_Pc [.ref mo, .int (nI q), .int i] (fun U => U.heap.size = sz ∧ va_P (dC, dI) vwCl [(mo, .inr (3, [.int tv, .int (nI (2 ^ k)), .ref ma, .ref mb, .int (nI rs), .ref lo, .ref hi, .ref kp, .ref ot, .ref su]))] U.heap ∧ va_K (dC, dI) vwCl [] U ∧ va_D (fun _ => True) [(mo, .inr (3, [.int tv, .int (nI (2 ^ k)), .ref ma, .ref mb, .int (nI rs), .ref lo, .ref hi, .ref kp, .ref ot, .ref su]))])) (q_X4_value_badI dC dI mo ma mb lo hi kp ot su k rs tv q i (va_A [(mo, .inr (3, [.int tv, .int (nI (2 ^ k)), .ref ma, .ref mb, .int (nI rs), .ref lo, .ref hi, .ref kp, .ref ot, .ref su]))] sz)) 0 0 (va_A [(mo, .inr (3, [.int tv, .int (nI (2 ^ k)), .ref ma, .ref mb, .int (nI rs), .ref lo, .ref hi, .ref kp, .ref ot, .ref su]))] sz) := by
  refine Met.ofW (cc := cX4_value) (maxL := 3) (ret := (some .int)) (by decide) rfl ?_
  intro p e s m args below meth c s₁ B hml hv
  obtain ⟨rfl, hsz, hP, hK, hD0⟩ := hv
  have hx := B.exec
  have hb := B.bytes
  have hr := B.returns
  have hts := atoms_spec (ws := wsX4_value) B.pre
  have hown : s.vm.findClass RX4 = some m.cls := findClass_of_methodNamed B.named
  have hlocks := B.notSynchronized
  subst hsz
  have hD := hD0.self (sz := s.heap.size)
  generalize hAe : va_A [(mo, .inr (3, [.int tv, .int (nI (2 ^ k)), .ref ma, .ref mb, .int (nI rs), .ref lo, .ref hi, .ref kp, .ref ot, .ref su]))] s.heap.size = A at hD ⊢
  have hA : ∀ q : Nat, s.heap.size ≤ q → A q := fun q h => by rw [← hAe]; exact Or.inr h
  have hS : va_S A s.heap s.heap [] := va_S.rf
  have hP : va_P (dC, dI) vwCl [(mo, .inr (3, [.int tv, .int (nI (2 ^ k)), .ref ma, .ref mb, .int (nI rs), .ref lo, .ref hi, .ref kp, .ref ot, .ref su]))] s.heap := hP
  have hl := lv_entry (([.ref mo, .int (nI q), .int i] : List Value)) (n := 3) (Nat.le_of_ble_eq_true rfl)
  rw [lg_entry_eq]
  generalize (lg_sl (([.ref mo, .int (nI q), .int i] : List Value)) ++ List.replicate (3 - (lg_sl (([.ref mo, .int (nI q), .int i] : List Value))).length) Slot.unset).toArray = ls at hl ⊢
  have hl : lv_has ls 3 [(0, .ref mo), (1, .int (nI q)), (2, .int i)] := hl
  obtain ⟨H, hHe⟩ : ∃ H : Heap, H = s.heap := ⟨_, rfl⟩
  rw [← hHe] at hP
  have hS : va_S A s.heap H [] := by rw [hHe]; exact hS
  obtain ⟨locs, hlo⟩ : ∃ L : List Loc, L = [] := ⟨_, rfl⟩
  rw [← hlo] at hS ⊢
  rw [← hHe]
  have hpk := pw8 zk
  refine lv_aload_n hx hb dX4_value_0 rfl (lv_at hl 0 rfl) ?_
  refine lv_iload_n hx hb dX4_value_1 rfl (lv_at hl 1 rfl) ?_
  have hPc := hP.sub (ws' := []) [] rfl
  have hDc := hD.sub (ws' := []) [] (by decide) rfl
  have hKc := hK.sub (tys' := []) [] rfl
  have hFc := va_free (wc := []) hD hS hA [] rfl
  refine va_calli (va_runS (As := [.int (nI q)]) (rest := [.ref mo]) ⟨hx, hb, hml, hown, hts⟩ (c_X4_noPrime_ok l dC dI q H.size (by omega)) (va_cwS 1 hts gX4_value_X4_noPrime rfl rfl rfl (by decide +kernel) ⟨Nat.le_of_ble_eq_true rfl, Nat.le_of_ble_eq_true rfl⟩) ⟨fun a U g mk q => by obtain ⟨q0, q1, qP, qK, qD⟩ := q; exact ⟨q0, q1, qP, va_K.moved (u := U) (U := U.calling g mk a) (Vm.Alike.refl U.vm) qK, qD⟩, fun U hU hW => ⟨rfl, by rw [hU], by rw [hU]; exact hPc, va_K.moved hW.alike hKc, hDc.weaken (fun _ _ _ _ => trivial)⟩⟩ rfl rfl hl.1 rfl (lv_room (Nat.le_of_ble_eq_true rfl)) dX4_value_2 ⟨Nat.le_of_ble_eq_true rfl, Nat.le_of_ble_eq_true rfl⟩) hS (fun q _ h => hFc q h) hFc (fun r9 u9 t9 H1 locs ht hvm hw hB hz1 hk1 hS => ?_)
  obtain ⟨hP1, hD1⟩ := hB
  rw [ht] at hP1
  try dsimp only at hw
  obtain ⟨hP, hD⟩ := va_join (wr := [(mo, .inr (3, [.int tv, .int (nI (2 ^ k)), .ref ma, .ref mb, .int (nI rs), .ref lo, .ref hi, .ref kp, .ref ot, .ref su]))]) (w1 := []) hP hD [] [0] rfl rfl (by decide) (by decide) hk1 hFc hP1 hD1
  generalize H1 = H at hP hS ⊢
  have hP : va_P (dC, dI) vwCl [(mo, .inr (3, [.int tv, .int (nI (2 ^ k)), .ref ma, .ref mb, .int (nI rs), .ref lo, .ref hi, .ref kp, .ref ot, .ref su]))] H := hP
  have hD : va_D A [(mo, .inr (3, [.int tv, .int (nI (2 ^ k)), .ref ma, .ref mb, .int (nI rs), .ref lo, .ref hi, .ref kp, .ref ot, .ref su]))] := hD
  clear hPc hDc hKc hFc hP1 hD1 hk1 hz1 hvm ht
  subst hw
  refine lv_if_eq (tgt := 12) hx hb dX4_value_5 (by decide) (fun c_1 => ?_) (fun c_1 => ?_)
  · have c_1 : 0 = 0 := (nI_eq (a := 0) (b := 0) (by omega) (by omega)).mp c_1
    refine lv_iload_n hx hb dX4_value_12 rfl (lv_at hl 2 rfl) ?_
    refine lv_if_lt (tgt := 24) hx hb dX4_value_13 (by decide) (fun c_2 => ?_) (fun c_2 => ?_)
    · refine lv_iconst (v := nI 2) hx hb dX4_value_24 (by decide) ?_
      refine lv_goto (tgt := 29) hx hb dX4_value_25 (by decide) ?_
      refine va_put (D := (dC, dI)) (ci := 3) (v := .int (nI 2)) (ty := .int) (C := RX4) (T := TX4) (N := 10) hx hb hts (by decide +kernel) tyX4 tyX4_ok nmX4 hown hK hP hD hS 0 rfl rfl 0 (by decide) (hts (.fieldLink RX4 36 "ThreePrimesModel" "thrown" "I") (by decide +kernel)) (fun _ h9 => h9) rfl (by decide +kernel) rfl rfl (Nat.le_of_ble_eq_true rfl) dX4_value_29 (fun H locs hP hD hS => ?_)
      have hP : va_P (dC, dI) vwCl [(mo, .inr (3, [.int (nI 2), .int (nI (2 ^ k)), .ref ma, .ref mb, .int (nI rs), .ref lo, .ref hi, .ref kp, .ref ot, .ref su]))] H := hP
      have hD : va_D A [(mo, .inr (3, [.int (nI 2), .int (nI (2 ^ k)), .ref ma, .ref mb, .int (nI rs), .ref lo, .ref hi, .ref kp, .ref ot, .ref su]))] := hD
      refine lv_aload_n hx hb dX4_value_32 rfl (lv_at hl 0 rfl) ?_
      refine va_get (D := (dC, dI)) (ci := 3) (v := .int (nI 2)) (C := RX4) (T := TX4) (N := 10) hx hb hts (by decide +kernel) hown hK hP 0 rfl rfl 0 (by decide) (hts (.fieldLink RX4 36 "ThreePrimesModel" "thrown" "I") (by decide +kernel)) (fun _ h9 => h9) rfl dX4_value_33 ?_
      refine lv_if_le (tgt := 43) hx hb dX4_value_36 (by decide) (fun c_3 => ?_) (fun c_3 => ?_)
      · have c_3 : 2 ≤ 0 := (nI_leI (a := 2) (b := 0) (by omega) (by omega)).mp c_3
        omega
      · have c_3 : ¬ (2 ≤ 0) := fun zq9 => c_3 ((nI_leI (a := 2) (b := 0) (by omega) (by omega)).mpr zq9)
        refine lv_iconst (v := nI 0) hx hb dX4_value_39 (by decide) ?_
        refine lv_goto (tgt := 51) hx hb dX4_value_40 (by decide) ?_
        have hP9 : va_P (dC, dI) vwCl [(mo, .inr (3, [.int (nI 2), .int (nI (2 ^ k)), .ref ma, .ref mb, .int (nI rs), .ref lo, .ref hi, .ref kp, .ref ot, .ref su]))] H := hP.sub [0] rfl
        have hD9 : va_D A [(mo, .inr (3, [.int (nI 2), .int (nI (2 ^ k)), .ref ma, .ref mb, .int (nI rs), .ref lo, .ref hi, .ref kp, .ref ot, .ref su]))] := hD.sub [0] (by decide) rfl
        exact W.iret (v := nI 0) hx hb hr (fun tq9 ht hW => ⟨⟨nI 0, (), rfl, trivial, by rw [ht]; exact hP9, hD9⟩, hS.F ht⟩) hS.2.2 dX4_value_51
    · refine lv_iload_n hx hb dX4_value_16 rfl (lv_at hl 2 rfl) ?_
      refine lv_aload_n hx hb dX4_value_17 rfl (lv_at hl 0 rfl) ?_
      refine va_get (D := (dC, dI)) (ci := 3) (v := .int (nI (2 ^ k))) (C := RX4) (T := TX4) (N := 10) hx hb hts (by decide +kernel) hown hK hP 0 rfl rfl 1 (by decide) (hts (.fieldLink RX4 7 "ThreePrimesModel" "n" "I") (by decide +kernel)) (fun _ h9 => h9) rfl dX4_value_18 ?_
      refine lv_icmp_lt (tgt := 28) hx hb dX4_value_21 (by decide) (fun c_4 => ?_) (fun c_4 => ?_)
      · exact absurd c_4 (Int32.not_lt.mpr (hbad.resolve_left c_2))
      · refine lv_iconst (v := nI 2) hx hb dX4_value_24 (by decide) ?_
        refine lv_goto (tgt := 29) hx hb dX4_value_25 (by decide) ?_
        refine va_put (D := (dC, dI)) (ci := 3) (v := .int (nI 2)) (ty := .int) (C := RX4) (T := TX4) (N := 10) hx hb hts (by decide +kernel) tyX4 tyX4_ok nmX4 hown hK hP hD hS 0 rfl rfl 0 (by decide) (hts (.fieldLink RX4 36 "ThreePrimesModel" "thrown" "I") (by decide +kernel)) (fun _ h9 => h9) rfl (by decide +kernel) rfl rfl (Nat.le_of_ble_eq_true rfl) dX4_value_29 (fun H locs hP hD hS => ?_)
        have hP : va_P (dC, dI) vwCl [(mo, .inr (3, [.int (nI 2), .int (nI (2 ^ k)), .ref ma, .ref mb, .int (nI rs), .ref lo, .ref hi, .ref kp, .ref ot, .ref su]))] H := hP
        have hD : va_D A [(mo, .inr (3, [.int (nI 2), .int (nI (2 ^ k)), .ref ma, .ref mb, .int (nI rs), .ref lo, .ref hi, .ref kp, .ref ot, .ref su]))] := hD
        refine lv_aload_n hx hb dX4_value_32 rfl (lv_at hl 0 rfl) ?_
        refine va_get (D := (dC, dI)) (ci := 3) (v := .int (nI 2)) (C := RX4) (T := TX4) (N := 10) hx hb hts (by decide +kernel) hown hK hP 0 rfl rfl 0 (by decide) (hts (.fieldLink RX4 36 "ThreePrimesModel" "thrown" "I") (by decide +kernel)) (fun _ h9 => h9) rfl dX4_value_33 ?_
        refine lv_if_le (tgt := 43) hx hb dX4_value_36 (by decide) (fun c_5 => ?_) (fun c_5 => ?_)
        · have c_5 : 2 ≤ 0 := (nI_leI (a := 2) (b := 0) (by omega) (by omega)).mp c_5
          omega
        · have c_5 : ¬ (2 ≤ 0) := fun zq9 => c_5 ((nI_leI (a := 2) (b := 0) (by omega) (by omega)).mpr zq9)
          refine lv_iconst (v := nI 0) hx hb dX4_value_39 (by decide) ?_
          refine lv_goto (tgt := 51) hx hb dX4_value_40 (by decide) ?_
          have hP9 : va_P (dC, dI) vwCl [(mo, .inr (3, [.int (nI 2), .int (nI (2 ^ k)), .ref ma, .ref mb, .int (nI rs), .ref lo, .ref hi, .ref kp, .ref ot, .ref su]))] H := hP.sub [0] rfl
          have hD9 : va_D A [(mo, .inr (3, [.int (nI 2), .int (nI (2 ^ k)), .ref ma, .ref mb, .int (nI rs), .ref lo, .ref hi, .ref kp, .ref ot, .ref su]))] := hD.sub [0] (by decide) rfl
          exact W.iret (v := nI 0) hx hb hr (fun tq9 ht hW => ⟨⟨nI 0, (), rfl, trivial, by rw [ht]; exact hP9, hD9⟩, hS.F ht⟩) hS.2.2 dX4_value_51
  · have c_1 : ¬ (0 = 0) := fun zq9 => c_1 ((nI_eq (a := 0) (b := 0) (by omega) (by omega)).mpr zq9)
    omega

abbrev q_X4_back_badP (dC : Nat → ClassId) (dI : Nat → Nat → Nat) (mo ma mb lo hi kp ot su k rs : Nat) (tv : Int32) (i v : Int32) (A : Nat → Prop) : Array Value → State → Outcome → State → Prop := va_Qi (fun (r : Int32) (u : Unit) => True) (fun u t => va_P (dC, dI) vwCl [(mo, .inr (3, [.int (nI 1), .int (nI (2 ^ k)), .ref ma, .ref mb, .int (nI rs), .ref lo, .ref hi, .ref kp, .ref ot, .ref su]))] t.heap ∧ va_D A [(mo, .inr (3, [.int (nI 1), .int (nI (2 ^ k)), .ref ma, .ref mb, .int (nI rs), .ref lo, .ref hi, .ref kp, .ref ot, .ref su]))]) A
set_option maxHeartbeats 4000000 in
set_option maxRecDepth 100000 in
theorem c_X4_back_badP (l : Launch) (dC : Nat → ClassId) (dI : Nat → Nat → Nat) (mo ma mb lo hi kp ot su k rs : Nat) (tv : Int32) (i v : Int32) (sz : Nat) (hbad : i < 0 ∨ nI 3 ≤ i) : Met l yX4_back wsX4_back ({ frames := 1, cells := 0, slots := 0, locals := 20 }) (va_Pc [.ref mo, .int i, .int v] (fun U => U.heap.size = sz ∧ va_P (dC, dI) vwCl [(mo, .inr (3, [.int tv, .int (nI (2 ^ k)), .ref ma, .ref mb, .int (nI rs), .ref lo, .ref hi, .ref kp, .ref ot, .ref su]))] U.heap ∧ va_K (dC, dI) vwCl [] U ∧ va_D (fun _ => True) [(mo, .inr (3, [.int tv, .int (nI (2 ^ k)), .ref ma, .ref mb, .int (nI rs), .ref lo, .ref hi, .ref kp, .ref ot, .ref su]))])) (q_X4_back_badP dC dI mo ma mb lo hi kp ot su k rs tv i v (va_A [(mo, .inr (3, [.int tv, .int (nI (2 ^ k)), .ref ma, .ref mb, .int (nI rs), .ref lo, .ref hi, .ref kp, .ref ot, .ref su]))] sz)) 0 0 (va_A [(mo, .inr (3, [.int tv, .int (nI (2 ^ k)), .ref ma, .ref mb, .int (nI rs), .ref lo, .ref hi, .ref kp, .ref ot, .ref su]))] sz) := by
  refine Met.ofW (cc := cX4_back) (maxL := 5) (ret := (some .int)) (by decide) rfl ?_
  intro p e s m args below meth c s₁ B hml hv
  obtain ⟨rfl, hsz, hP, hK, hD0⟩ := hv
  have hx := B.exec
  have hb := B.bytes
  have hr := B.returns
  have hts := atoms_spec (ws := wsX4_back) B.pre
  have hown : s.vm.findClass RX4 = some m.cls := findClass_of_methodNamed B.named
  have hlocks := B.notSynchronized
  subst hsz
  have hD := hD0.self (sz := s.heap.size)
  generalize hAe : va_A [(mo, .inr (3, [.int tv, .int (nI (2 ^ k)), .ref ma, .ref mb, .int (nI rs), .ref lo, .ref hi, .ref kp, .ref ot, .ref su]))] s.heap.size = A at hD ⊢
  have hA : ∀ q : Nat, s.heap.size ≤ q → A q := fun q h => by rw [← hAe]; exact Or.inr h
  have hS : va_S A s.heap s.heap [] := va_S.rf
  have hP : va_P (dC, dI) vwCl [(mo, .inr (3, [.int tv, .int (nI (2 ^ k)), .ref ma, .ref mb, .int (nI rs), .ref lo, .ref hi, .ref kp, .ref ot, .ref su]))] s.heap := hP
  have hl := lv_entry (([.ref mo, .int i, .int v] : List Value)) (n := 5) (Nat.le_of_ble_eq_true rfl)
  rw [lg_entry_eq]
  generalize (lg_sl (([.ref mo, .int i, .int v] : List Value)) ++ List.replicate (5 - (lg_sl (([.ref mo, .int i, .int v] : List Value))).length) Slot.unset).toArray = ls at hl ⊢
  have hl : lv_has ls 5 [(0, .ref mo), (1, .int i), (2, .int v)] := hl
  obtain ⟨H, hHe⟩ : ∃ H : Heap, H = s.heap := ⟨_, rfl⟩
  rw [← hHe] at hP
  have hS : va_S A s.heap H [] := by rw [hHe]; exact hS
  obtain ⟨locs, hlo⟩ : ∃ L : List Loc, L = [] := ⟨_, rfl⟩
  rw [← hlo] at hS ⊢
  rw [← hHe]
  refine lv_aload_n hx hb dX4_back_0 rfl (lv_at hl 0 rfl) ?_
  refine lv_iload_n hx hb dX4_back_1 rfl (lv_at hl 1 rfl) ?_
  have hPc := hP.sub (ws' := []) [] rfl
  have hDc := hD.sub (ws' := []) [] (by decide) rfl
  have hKc := hK.sub (tys' := []) [] rfl
  have hFc := va_free (wc := []) hD hS hA [] rfl
  refine va_calli (va_runS (As := [.int i]) (rest := [.ref mo]) ⟨hx, hb, hml, hown, hts⟩ (c_X4_noPrime_bad l dC dI i H.size hbad) (va_cwS 1 hts gX4_back_X4_noPrime rfl rfl rfl (by decide +kernel) ⟨Nat.le_of_ble_eq_true rfl, Nat.le_of_ble_eq_true rfl⟩) ⟨fun a U g mk q => by obtain ⟨q0, q1, qP, qK, qD⟩ := q; exact ⟨q0, q1, qP, va_K.moved (u := U) (U := U.calling g mk a) (Vm.Alike.refl U.vm) qK, qD⟩, fun U hU hW => ⟨rfl, by rw [hU], by rw [hU]; exact hPc, va_K.moved hW.alike hKc, hDc.weaken (fun _ _ _ _ => trivial)⟩⟩ rfl rfl hl.1 rfl (lv_room (Nat.le_of_ble_eq_true rfl)) dX4_back_2 ⟨Nat.le_of_ble_eq_true rfl, Nat.le_of_ble_eq_true rfl⟩) hS (fun q _ h => hFc q h) hFc (fun r9 u9 t9 H1 locs ht hvm hw hB hz1 hk1 hS => ?_)
  obtain ⟨hP1, hD1⟩ := hB
  rw [ht] at hP1
  try dsimp only at hw
  obtain ⟨hP, hD⟩ := va_join (wr := [(mo, .inr (3, [.int tv, .int (nI (2 ^ k)), .ref ma, .ref mb, .int (nI rs), .ref lo, .ref hi, .ref kp, .ref ot, .ref su]))]) (w1 := []) hP hD [] [0] rfl rfl (by decide) (by decide) hk1 hFc hP1 hD1
  generalize H1 = H at hP hS ⊢
  have hP : va_P (dC, dI) vwCl [(mo, .inr (3, [.int tv, .int (nI (2 ^ k)), .ref ma, .ref mb, .int (nI rs), .ref lo, .ref hi, .ref kp, .ref ot, .ref su]))] H := hP
  have hD : va_D A [(mo, .inr (3, [.int tv, .int (nI (2 ^ k)), .ref ma, .ref mb, .int (nI rs), .ref lo, .ref hi, .ref kp, .ref ot, .ref su]))] := hD
  clear hPc hDc hKc hFc hP1 hD1 hk1 hz1 hvm ht
  subst hw
  refine lv_if_eq (tgt := 12) hx hb dX4_back_5 (by decide) (fun c_1 => ?_) (fun c_1 => ?_)
  · have c_1 : 1 = 0 := (nI_eq (a := 1) (b := 0) (by omega) (by omega)).mp c_1
    omega
  · have c_1 : ¬ (1 = 0) := fun zq9 => c_1 ((nI_eq (a := 1) (b := 0) (by omega) (by omega)).mpr zq9)
    refine lv_iconst (v := nI 1) hx hb dX4_back_8 (by decide) ?_
    refine lv_goto (tgt := 29) hx hb dX4_back_9 (by decide) ?_
    refine va_put (D := (dC, dI)) (ci := 3) (v := .int (nI 1)) (ty := .int) (C := RX4) (T := TX4) (N := 10) hx hb hts (by decide +kernel) tyX4 tyX4_ok nmX4 hown hK hP hD hS 0 rfl rfl 0 (by decide) (hts (.fieldLink RX4 36 "ThreePrimesModel" "thrown" "I") (by decide +kernel)) (fun _ h9 => h9) rfl (by decide +kernel) rfl rfl (Nat.le_of_ble_eq_true rfl) dX4_back_29 (fun H locs hP hD hS => ?_)
    have hP : va_P (dC, dI) vwCl [(mo, .inr (3, [.int (nI 1), .int (nI (2 ^ k)), .ref ma, .ref mb, .int (nI rs), .ref lo, .ref hi, .ref kp, .ref ot, .ref su]))] H := hP
    have hD : va_D A [(mo, .inr (3, [.int (nI 1), .int (nI (2 ^ k)), .ref ma, .ref mb, .int (nI rs), .ref lo, .ref hi, .ref kp, .ref ot, .ref su]))] := hD
    refine lv_aload_n hx hb dX4_back_32 rfl (lv_at hl 0 rfl) ?_
    refine va_get (D := (dC, dI)) (ci := 3) (v := .int (nI 1)) (C := RX4) (T := TX4) (N := 10) hx hb hts (by decide +kernel) hown hK hP 0 rfl rfl 0 (by decide) (hts (.fieldLink RX4 36 "ThreePrimesModel" "thrown" "I") (by decide +kernel)) (fun _ h9 => h9) rfl dX4_back_33 ?_
    refine lv_if_le (tgt := 41) hx hb dX4_back_36 (by decide) (fun c_2 => ?_) (fun c_2 => ?_)
    · have c_2 : 1 ≤ 0 := (nI_leI (a := 1) (b := 0) (by omega) (by omega)).mp c_2
      omega
    · have c_2 : ¬ (1 ≤ 0) := fun zq9 => c_2 ((nI_leI (a := 1) (b := 0) (by omega) (by omega)).mpr zq9)
      refine lv_iconst (v := nI 0) hx hb dX4_back_39 (by decide) ?_
      have hP9 : va_P (dC, dI) vwCl [(mo, .inr (3, [.int (nI 1), .int (nI (2 ^ k)), .ref ma, .ref mb, .int (nI rs), .ref lo, .ref hi, .ref kp, .ref ot, .ref su]))] H := hP.sub [0] rfl
      have hD9 : va_D A [(mo, .inr (3, [.int (nI 1), .int (nI (2 ^ k)), .ref ma, .ref mb, .int (nI rs), .ref lo, .ref hi, .ref kp, .ref ot, .ref su]))] := hD.sub [0] (by decide) rfl
      exact W.iret (v := nI 0) hx hb hr (fun tq9 ht hW => ⟨⟨nI 0, (), rfl, trivial, by rw [ht]; exact hP9, hD9⟩, hS.F ht⟩) hS.2.2 dX4_back_40

abbrev q_X4_back_badI (dC : Nat → ClassId) (dI : Nat → Nat → Nat) (mo ma mb lo hi kp ot su k rs : Nat) (tv : Int32) (q : Nat) (i : Int32) (A : Nat → Prop) : Array Value → State → Outcome → State → Prop := va_Qi (fun (r : Int32) (u : Unit) => True) (fun u t => va_P (dC, dI) vwCl [(mo, .inr (3, [.int (nI 2), .int (nI (2 ^ k)), .ref ma, .ref mb, .int (nI rs), .ref lo, .ref hi, .ref kp, .ref ot, .ref su]))] t.heap ∧ va_D A [(mo, .inr (3, [.int (nI 2), .int (nI (2 ^ k)), .ref ma, .ref mb, .int (nI rs), .ref lo, .ref hi, .ref kp, .ref ot, .ref su]))]) A
set_option maxHeartbeats 4000000 in
set_option maxRecDepth 100000 in
theorem c_X4_back_badI (l : Launch) (dC : Nat → ClassId) (dI : Nat → Nat → Nat) (mo ma mb lo hi kp ot su k rs : Nat) (tv : Int32) (q : Nat) (i : Int32) (sz : Nat) (zk1 : 1 ≤ k) (zk : k ≤ 8) (zq : q < 3) (hbad : i < 0 ∨ nI (2 ^ k) ≤ i) : Met l yX4_back wsX4_back ({ frames := 1, cells := 0, slots := 0, locals := 20 }) (va_Pc [.ref mo, .int (nI q), .int i] (fun U => U.heap.size = sz ∧ va_P (dC, dI) vwCl [(mo, .inr (3, [.int tv, .int (nI (2 ^ k)), .ref ma, .ref mb, .int (nI rs), .ref lo, .ref hi, .ref kp, .ref ot, .ref su]))] U.heap ∧ va_K (dC, dI) vwCl [] U ∧ va_D (fun _ => True) [(mo, .inr (3, [.int tv, .int (nI (2 ^ k)), .ref ma, .ref mb, .int (nI rs), .ref lo, .ref hi, .ref kp, .ref ot, .ref su]))])) (q_X4_back_badI dC dI mo ma mb lo hi kp ot su k rs tv q i (va_A [(mo, .inr (3, [.int tv, .int (nI (2 ^ k)), .ref ma, .ref mb, .int (nI rs), .ref lo, .ref hi, .ref kp, .ref ot, .ref su]))] sz)) 0 0 (va_A [(mo, .inr (3, [.int tv, .int (nI (2 ^ k)), .ref ma, .ref mb, .int (nI rs), .ref lo, .ref hi, .ref kp, .ref ot, .ref su]))] sz) := by
  refine Met.ofW (cc := cX4_back) (maxL := 5) (ret := (some .int)) (by decide) rfl ?_
  intro p e s m args below meth c s₁ B hml hv
  obtain ⟨rfl, hsz, hP, hK, hD0⟩ := hv
  have hx := B.exec
  have hb := B.bytes
  have hr := B.returns
  have hts := atoms_spec (ws := wsX4_back) B.pre
  have hown : s.vm.findClass RX4 = some m.cls := findClass_of_methodNamed B.named
  have hlocks := B.notSynchronized
  subst hsz
  have hD := hD0.self (sz := s.heap.size)
  generalize hAe : va_A [(mo, .inr (3, [.int tv, .int (nI (2 ^ k)), .ref ma, .ref mb, .int (nI rs), .ref lo, .ref hi, .ref kp, .ref ot, .ref su]))] s.heap.size = A at hD ⊢
  have hA : ∀ q : Nat, s.heap.size ≤ q → A q := fun q h => by rw [← hAe]; exact Or.inr h
  have hS : va_S A s.heap s.heap [] := va_S.rf
  have hP : va_P (dC, dI) vwCl [(mo, .inr (3, [.int tv, .int (nI (2 ^ k)), .ref ma, .ref mb, .int (nI rs), .ref lo, .ref hi, .ref kp, .ref ot, .ref su]))] s.heap := hP
  have hl := lv_entry (([.ref mo, .int (nI q), .int i] : List Value)) (n := 5) (Nat.le_of_ble_eq_true rfl)
  rw [lg_entry_eq]
  generalize (lg_sl (([.ref mo, .int (nI q), .int i] : List Value)) ++ List.replicate (5 - (lg_sl (([.ref mo, .int (nI q), .int i] : List Value))).length) Slot.unset).toArray = ls at hl ⊢
  have hl : lv_has ls 5 [(0, .ref mo), (1, .int (nI q)), (2, .int i)] := hl
  obtain ⟨H, hHe⟩ : ∃ H : Heap, H = s.heap := ⟨_, rfl⟩
  rw [← hHe] at hP
  have hS : va_S A s.heap H [] := by rw [hHe]; exact hS
  obtain ⟨locs, hlo⟩ : ∃ L : List Loc, L = [] := ⟨_, rfl⟩
  rw [← hlo] at hS ⊢
  rw [← hHe]
  have hpk := pw8 zk
  refine lv_aload_n hx hb dX4_back_0 rfl (lv_at hl 0 rfl) ?_
  refine lv_iload_n hx hb dX4_back_1 rfl (lv_at hl 1 rfl) ?_
  have hPc := hP.sub (ws' := []) [] rfl
  have hDc := hD.sub (ws' := []) [] (by decide) rfl
  have hKc := hK.sub (tys' := []) [] rfl
  have hFc := va_free (wc := []) hD hS hA [] rfl
  refine va_calli (va_runS (As := [.int (nI q)]) (rest := [.ref mo]) ⟨hx, hb, hml, hown, hts⟩ (c_X4_noPrime_ok l dC dI q H.size (by omega)) (va_cwS 1 hts gX4_back_X4_noPrime rfl rfl rfl (by decide +kernel) ⟨Nat.le_of_ble_eq_true rfl, Nat.le_of_ble_eq_true rfl⟩) ⟨fun a U g mk q => by obtain ⟨q0, q1, qP, qK, qD⟩ := q; exact ⟨q0, q1, qP, va_K.moved (u := U) (U := U.calling g mk a) (Vm.Alike.refl U.vm) qK, qD⟩, fun U hU hW => ⟨rfl, by rw [hU], by rw [hU]; exact hPc, va_K.moved hW.alike hKc, hDc.weaken (fun _ _ _ _ => trivial)⟩⟩ rfl rfl hl.1 rfl (lv_room (Nat.le_of_ble_eq_true rfl)) dX4_back_2 ⟨Nat.le_of_ble_eq_true rfl, Nat.le_of_ble_eq_true rfl⟩) hS (fun q _ h => hFc q h) hFc (fun r9 u9 t9 H1 locs ht hvm hw hB hz1 hk1 hS => ?_)
  obtain ⟨hP1, hD1⟩ := hB
  rw [ht] at hP1
  try dsimp only at hw
  obtain ⟨hP, hD⟩ := va_join (wr := [(mo, .inr (3, [.int tv, .int (nI (2 ^ k)), .ref ma, .ref mb, .int (nI rs), .ref lo, .ref hi, .ref kp, .ref ot, .ref su]))]) (w1 := []) hP hD [] [0] rfl rfl (by decide) (by decide) hk1 hFc hP1 hD1
  generalize H1 = H at hP hS ⊢
  have hP : va_P (dC, dI) vwCl [(mo, .inr (3, [.int tv, .int (nI (2 ^ k)), .ref ma, .ref mb, .int (nI rs), .ref lo, .ref hi, .ref kp, .ref ot, .ref su]))] H := hP
  have hD : va_D A [(mo, .inr (3, [.int tv, .int (nI (2 ^ k)), .ref ma, .ref mb, .int (nI rs), .ref lo, .ref hi, .ref kp, .ref ot, .ref su]))] := hD
  clear hPc hDc hKc hFc hP1 hD1 hk1 hz1 hvm ht
  subst hw
  refine lv_if_eq (tgt := 12) hx hb dX4_back_5 (by decide) (fun c_1 => ?_) (fun c_1 => ?_)
  · have c_1 : 0 = 0 := (nI_eq (a := 0) (b := 0) (by omega) (by omega)).mp c_1
    refine lv_iload_n hx hb dX4_back_12 rfl (lv_at hl 2 rfl) ?_
    refine lv_if_lt (tgt := 24) hx hb dX4_back_13 (by decide) (fun c_2 => ?_) (fun c_2 => ?_)
    · refine lv_iconst (v := nI 2) hx hb dX4_back_24 (by decide) ?_
      refine lv_goto (tgt := 29) hx hb dX4_back_25 (by decide) ?_
      refine va_put (D := (dC, dI)) (ci := 3) (v := .int (nI 2)) (ty := .int) (C := RX4) (T := TX4) (N := 10) hx hb hts (by decide +kernel) tyX4 tyX4_ok nmX4 hown hK hP hD hS 0 rfl rfl 0 (by decide) (hts (.fieldLink RX4 36 "ThreePrimesModel" "thrown" "I") (by decide +kernel)) (fun _ h9 => h9) rfl (by decide +kernel) rfl rfl (Nat.le_of_ble_eq_true rfl) dX4_back_29 (fun H locs hP hD hS => ?_)
      have hP : va_P (dC, dI) vwCl [(mo, .inr (3, [.int (nI 2), .int (nI (2 ^ k)), .ref ma, .ref mb, .int (nI rs), .ref lo, .ref hi, .ref kp, .ref ot, .ref su]))] H := hP
      have hD : va_D A [(mo, .inr (3, [.int (nI 2), .int (nI (2 ^ k)), .ref ma, .ref mb, .int (nI rs), .ref lo, .ref hi, .ref kp, .ref ot, .ref su]))] := hD
      refine lv_aload_n hx hb dX4_back_32 rfl (lv_at hl 0 rfl) ?_
      refine va_get (D := (dC, dI)) (ci := 3) (v := .int (nI 2)) (C := RX4) (T := TX4) (N := 10) hx hb hts (by decide +kernel) hown hK hP 0 rfl rfl 0 (by decide) (hts (.fieldLink RX4 36 "ThreePrimesModel" "thrown" "I") (by decide +kernel)) (fun _ h9 => h9) rfl dX4_back_33 ?_
      refine lv_if_le (tgt := 41) hx hb dX4_back_36 (by decide) (fun c_3 => ?_) (fun c_3 => ?_)
      · have c_3 : 2 ≤ 0 := (nI_leI (a := 2) (b := 0) (by omega) (by omega)).mp c_3
        omega
      · have c_3 : ¬ (2 ≤ 0) := fun zq9 => c_3 ((nI_leI (a := 2) (b := 0) (by omega) (by omega)).mpr zq9)
        refine lv_iconst (v := nI 0) hx hb dX4_back_39 (by decide) ?_
        have hP9 : va_P (dC, dI) vwCl [(mo, .inr (3, [.int (nI 2), .int (nI (2 ^ k)), .ref ma, .ref mb, .int (nI rs), .ref lo, .ref hi, .ref kp, .ref ot, .ref su]))] H := hP.sub [0] rfl
        have hD9 : va_D A [(mo, .inr (3, [.int (nI 2), .int (nI (2 ^ k)), .ref ma, .ref mb, .int (nI rs), .ref lo, .ref hi, .ref kp, .ref ot, .ref su]))] := hD.sub [0] (by decide) rfl
        exact W.iret (v := nI 0) hx hb hr (fun tq9 ht hW => ⟨⟨nI 0, (), rfl, trivial, by rw [ht]; exact hP9, hD9⟩, hS.F ht⟩) hS.2.2 dX4_back_40
    · refine lv_iload_n hx hb dX4_back_16 rfl (lv_at hl 2 rfl) ?_
      refine lv_aload_n hx hb dX4_back_17 rfl (lv_at hl 0 rfl) ?_
      refine va_get (D := (dC, dI)) (ci := 3) (v := .int (nI (2 ^ k))) (C := RX4) (T := TX4) (N := 10) hx hb hts (by decide +kernel) hown hK hP 0 rfl rfl 1 (by decide) (hts (.fieldLink RX4 7 "ThreePrimesModel" "n" "I") (by decide +kernel)) (fun _ h9 => h9) rfl dX4_back_18 ?_
      refine lv_icmp_lt (tgt := 28) hx hb dX4_back_21 (by decide) (fun c_4 => ?_) (fun c_4 => ?_)
      · exact absurd c_4 (Int32.not_lt.mpr (hbad.resolve_left c_2))
      · refine lv_iconst (v := nI 2) hx hb dX4_back_24 (by decide) ?_
        refine lv_goto (tgt := 29) hx hb dX4_back_25 (by decide) ?_
        refine va_put (D := (dC, dI)) (ci := 3) (v := .int (nI 2)) (ty := .int) (C := RX4) (T := TX4) (N := 10) hx hb hts (by decide +kernel) tyX4 tyX4_ok nmX4 hown hK hP hD hS 0 rfl rfl 0 (by decide) (hts (.fieldLink RX4 36 "ThreePrimesModel" "thrown" "I") (by decide +kernel)) (fun _ h9 => h9) rfl (by decide +kernel) rfl rfl (Nat.le_of_ble_eq_true rfl) dX4_back_29 (fun H locs hP hD hS => ?_)
        have hP : va_P (dC, dI) vwCl [(mo, .inr (3, [.int (nI 2), .int (nI (2 ^ k)), .ref ma, .ref mb, .int (nI rs), .ref lo, .ref hi, .ref kp, .ref ot, .ref su]))] H := hP
        have hD : va_D A [(mo, .inr (3, [.int (nI 2), .int (nI (2 ^ k)), .ref ma, .ref mb, .int (nI rs), .ref lo, .ref hi, .ref kp, .ref ot, .ref su]))] := hD
        refine lv_aload_n hx hb dX4_back_32 rfl (lv_at hl 0 rfl) ?_
        refine va_get (D := (dC, dI)) (ci := 3) (v := .int (nI 2)) (C := RX4) (T := TX4) (N := 10) hx hb hts (by decide +kernel) hown hK hP 0 rfl rfl 0 (by decide) (hts (.fieldLink RX4 36 "ThreePrimesModel" "thrown" "I") (by decide +kernel)) (fun _ h9 => h9) rfl dX4_back_33 ?_
        refine lv_if_le (tgt := 41) hx hb dX4_back_36 (by decide) (fun c_5 => ?_) (fun c_5 => ?_)
        · have c_5 : 2 ≤ 0 := (nI_leI (a := 2) (b := 0) (by omega) (by omega)).mp c_5
          omega
        · have c_5 : ¬ (2 ≤ 0) := fun zq9 => c_5 ((nI_leI (a := 2) (b := 0) (by omega) (by omega)).mpr zq9)
          refine lv_iconst (v := nI 0) hx hb dX4_back_39 (by decide) ?_
          have hP9 : va_P (dC, dI) vwCl [(mo, .inr (3, [.int (nI 2), .int (nI (2 ^ k)), .ref ma, .ref mb, .int (nI rs), .ref lo, .ref hi, .ref kp, .ref ot, .ref su]))] H := hP.sub [0] rfl
          have hD9 : va_D A [(mo, .inr (3, [.int (nI 2), .int (nI (2 ^ k)), .ref ma, .ref mb, .int (nI rs), .ref lo, .ref hi, .ref kp, .ref ot, .ref su]))] := hD.sub [0] (by decide) rfl
          exact W.iret (v := nI 0) hx hb hr (fun tq9 ht hW => ⟨⟨nI 0, (), rfl, trivial, by rw [ht]; exact hP9, hD9⟩, hS.F ht⟩) hS.2.2 dX4_back_40
  · have c_1 : ¬ (0 = 0) := fun zq9 => c_1 ((nI_eq (a := 0) (b := 0) (by omega) (by omega)).mpr zq9)
    omega

abbrev q_X4_keep_ok (dC : Nat → ClassId) (dI : Nat → Nat → Nat) (mo ma mb lo hi kp ot su k rs : Nat) (tv : Int32) (cI cJ : ClassId) (fa : Nat → Int32) (LW : Nat → Int) (A : Nat → Prop) : Array Value → State → Outcome → State → Prop := va_Qv (fun (u : Unit) => True) (fun u t => va_P (dC, dI) vwCl [(mo, .inr (3, [.int (nI 0), .int (nI (2 ^ k)), .ref ma, .ref mb, .int (nI rs), .ref lo, .ref hi, .ref kp, .ref ot, .ref su])), (ma, .inl (cI, 256, .inl (mix (fun i => iI (LW i)) fa (2 ^ k)))), (lo, .inl (cJ, 511, .inr (.inl (fun j => lI (LW j)))))] t.heap ∧ va_D A [(mo, .inr (3, [.int (nI 0), .int (nI (2 ^ k)), .ref ma, .ref mb, .int (nI rs), .ref lo, .ref hi, .ref kp, .ref ot, .ref su])), (ma, .inl (cI, 256, .inl (mix (fun i => iI (LW i)) fa (2 ^ k)))), (lo, .inl (cJ, 511, .inr (.inl (fun j => lI (LW j)))))]) A
set_option maxHeartbeats 4000000 in
set_option maxRecDepth 100000 in
theorem c_X4_keep_ok (l : Launch) (dC : Nat → ClassId) (dI : Nat → Nat → Nat) (mo ma mb lo hi kp ot su k rs : Nat) (tv : Int32) (cI cJ : ClassId) (fa : Nat → Int32) (LW : Nat → Int) (sz : Nat) (zk1 : 1 ≤ k) (zk : k ≤ 8) (zrs : 1 ≤ rs) (zrs2 : rs ≤ 511) : Met l yX4_keep wsX4_keep ({ frames := 0, cells := 0, slots := 0, locals := 0 }) (va_Pc [.ref mo] (fun U => U.heap.size = sz ∧ va_P (dC, dI) vwCl [(mo, .inr (3, [.int tv, .int (nI (2 ^ k)), .ref ma, .ref mb, .int (nI rs), .ref lo, .ref hi, .ref kp, .ref ot, .ref su])), (ma, .inl (cI, 256, .inl fa)), (lo, .inl (cJ, 511, .inr (.inl (fun j => lI (LW j)))))] U.heap ∧ va_K (dC, dI) vwCl [(cI, .int), (cJ, .long)] U ∧ va_D (fun _ => True) [(mo, .inr (3, [.int tv, .int (nI (2 ^ k)), .ref ma, .ref mb, .int (nI rs), .ref lo, .ref hi, .ref kp, .ref ot, .ref su])), (ma, .inl (cI, 256, .inl fa)), (lo, .inl (cJ, 511, .inr (.inl (fun j => lI (LW j)))))])) (q_X4_keep_ok dC dI mo ma mb lo hi kp ot su k rs tv cI cJ fa LW (va_A [(mo, .inr (3, [.int tv, .int (nI (2 ^ k)), .ref ma, .ref mb, .int (nI rs), .ref lo, .ref hi, .ref kp, .ref ot, .ref su])), (ma, .inl (cI, 256, .inl fa)), (lo, .inl (cJ, 511, .inr (.inl (fun j => lI (LW j)))))] sz)) 0 0 (va_A [(mo, .inr (3, [.int tv, .int (nI (2 ^ k)), .ref ma, .ref mb, .int (nI rs), .ref lo, .ref hi, .ref kp, .ref ot, .ref su])), (ma, .inl (cI, 256, .inl fa)), (lo, .inl (cJ, 511, .inr (.inl (fun j => lI (LW j)))))] sz) := by
  refine Met.ofW (cc := cX4_keep) (maxL := 2) (ret := none) (by decide) rfl ?_
  intro p e s m args below meth c s₁ B hml hv
  obtain ⟨rfl, hsz, hP, hK, hD0⟩ := hv
  have hx := B.exec
  have hb := B.bytes
  have hr := B.returns
  have hts := atoms_spec (ws := wsX4_keep) B.pre
  have hown : s.vm.findClass RX4 = some m.cls := findClass_of_methodNamed B.named
  have hlocks := B.notSynchronized
  subst hsz
  have hD := hD0.self (sz := s.heap.size)
  generalize hAe : va_A [(mo, .inr (3, [.int tv, .int (nI (2 ^ k)), .ref ma, .ref mb, .int (nI rs), .ref lo, .ref hi, .ref kp, .ref ot, .ref su])), (ma, .inl (cI, 256, .inl fa)), (lo, .inl (cJ, 511, .inr (.inl (fun j => lI (LW j)))))] s.heap.size = A at hD ⊢
  have hA : ∀ q : Nat, s.heap.size ≤ q → A q := fun q h => by rw [← hAe]; exact Or.inr h
  have hS : va_S A s.heap s.heap [] := va_S.rf
  have hP : va_P (dC, dI) vwCl [(mo, .inr (3, [.int tv, .int (nI (2 ^ k)), .ref ma, .ref mb, .int (nI rs), .ref lo, .ref hi, .ref kp, .ref ot, .ref su])), (ma, .inl (cI, 256, .inl fa)), (lo, .inl (cJ, 511, .inr (.inl (fun j => lI (LW j)))))] s.heap := hP
  have hl := lv_entry (([.ref mo] : List Value)) (n := 2) (Nat.le_of_ble_eq_true rfl)
  rw [lg_entry_eq]
  generalize (lg_sl (([.ref mo] : List Value)) ++ List.replicate (2 - (lg_sl (([.ref mo] : List Value))).length) Slot.unset).toArray = ls at hl ⊢
  have hl : lv_has ls 2 [(0, .ref mo)] := hl
  obtain ⟨H, hHe⟩ : ∃ H : Heap, H = s.heap := ⟨_, rfl⟩
  rw [← hHe] at hP
  have hS : va_S A s.heap H [] := by rw [hHe]; exact hS
  obtain ⟨locs, hlo⟩ : ∃ L : List Loc, L = [] := ⟨_, rfl⟩
  rw [← hlo] at hS ⊢
  rw [← hHe]
  have hpk := pw8 zk
  refine lv_aload_n hx hb dX4_keep_0 rfl (lv_at hl 0 rfl) ?_
  refine lv_aload_n hx hb dX4_keep_1 rfl (lv_at hl 0 rfl) ?_
  refine va_get (D := (dC, dI)) (ci := 3) (v := .int (nI rs)) (C := RX4) (T := TX4) (N := 10) hx hb hts (by decide +kernel) hown hK hP 0 rfl rfl 4 (by decide) (hts (.fieldLink RX4 39 "ThreePrimesModel" "results" "I") (by decide +kernel)) (fun _ h9 => h9) rfl dX4_keep_2 ?_
  refine lv_if_ne (tgt := 12) hx hb dX4_keep_5 (by decide) (fun c_1 => ?_) (fun c_1 => ?_)
  · have c_1 : ¬ (rs = 0) := fun zq9 => c_1 ((nI_eq (a := rs) (b := 0) (by omega) (by omega)).mpr zq9)
    refine lv_iconst (v := nI 0) hx hb dX4_keep_12 (by decide) ?_
    refine va_put (D := (dC, dI)) (ci := 3) (v := .int (nI 0)) (ty := .int) (C := RX4) (T := TX4) (N := 10) hx hb hts (by decide +kernel) tyX4 tyX4_ok nmX4 hown hK hP hD hS 0 rfl rfl 0 (by decide) (hts (.fieldLink RX4 36 "ThreePrimesModel" "thrown" "I") (by decide +kernel)) (fun _ h9 => h9) rfl (by decide +kernel) rfl rfl (Nat.le_of_ble_eq_true rfl) dX4_keep_13 (fun H locs hP hD hS => ?_)
    have hP : va_P (dC, dI) vwCl [(mo, .inr (3, [.int (nI 0), .int (nI (2 ^ k)), .ref ma, .ref mb, .int (nI rs), .ref lo, .ref hi, .ref kp, .ref ot, .ref su])), (ma, .inl (cI, 256, .inl fa)), (lo, .inl (cJ, 511, .inr (.inl (fun j => lI (LW j)))))] H := hP
    have hD : va_D A [(mo, .inr (3, [.int (nI 0), .int (nI (2 ^ k)), .ref ma, .ref mb, .int (nI rs), .ref lo, .ref hi, .ref kp, .ref ot, .ref su])), (ma, .inl (cI, 256, .inl fa)), (lo, .inl (cJ, 511, .inr (.inl (fun j => lI (LW j)))))] := hD
    refine lv_iconst (v := nI 0) hx hb dX4_keep_16 (by decide) ?_
    rw [show fa = mix (fun i => iI (LW i)) fa 0 from (mix_0 _ _).symm] at hP hD
    have hP : va_P (dC, dI) vwCl [(mo, .inr (3, [.int (nI 0), .int (nI (2 ^ k)), .ref ma, .ref mb, .int (nI rs), .ref lo, .ref hi, .ref kp, .ref ot, .ref su])), (ma, .inl (cI, 256, .inl (mix (fun i => iI (LW i)) fa 0))), (lo, .inl (cJ, 511, .inr (.inl (fun j => lI (LW j)))))] H := hP
    have hD : va_D A [(mo, .inr (3, [.int (nI 0), .int (nI (2 ^ k)), .ref ma, .ref mb, .int (nI rs), .ref lo, .ref hi, .ref kp, .ref ot, .ref su])), (ma, .inl (cI, 256, .inl (mix (fun i => iI (LW i)) fa 0))), (lo, .inl (cJ, 511, .inr (.inl (fun j => lI (LW j)))))] := hD
    refine lv_istore_n (lv' := [(1, .int (nI 0)), (0, .ref mo)]) hx hb dX4_keep_17 rfl hl (by decide) rfl (fun ls hl => ?_)
    have key_18 : ∀ (fuel : Nat) (t : Nat), (t ≤ 2 ^ k) → (2 ^ k - t < fuel) → ∀ (H : Heap) (locs : List Loc) (ls : Array Slot), va_P (dC, dI) vwCl [(mo, .inr (3, [.int (nI 0), .int (nI (2 ^ k)), .ref ma, .ref mb, .int (nI rs), .ref lo, .ref hi, .ref kp, .ref ot, .ref su])), (ma, .inl (cI, 256, .inl (mix (fun i => iI (LW i)) fa t))), (lo, .inl (cJ, 511, .inr (.inl (fun j => lI (LW j)))))] H → va_D A [(mo, .inr (3, [.int (nI 0), .int (nI (2 ^ k)), .ref ma, .ref mb, .int (nI rs), .ref lo, .ref hi, .ref kp, .ref ot, .ref su])), (ma, .inl (cI, 256, .inl (mix (fun i => iI (LW i)) fa t))), (lo, .inl (cJ, 511, .inr (.inl (fun j => lI (LW j)))))] → va_S A s.heap H locs → lv_has ls 2 [(1, .int (nI t)), (0, .ref mo)] → W p l e (headSpec wsX4_keep { frames := 0, cells := 0, slots := 0, locals := 0 }).room s m ([.ref mo] : List Value).toArray below meth c H locs 0 0 (MQ below (q_X4_keep_ok dC dI mo ma mb lo hi kp ot su k rs tv cI cJ fa LW  A) ([.ref mo] : List Value).toArray s 0 0 A) (F0 m 18 ls []) := by
      intro fuel
      induction fuel with
      | zero => intro t; intros; omega
      | succ fuel ih_18 =>
        intro t ht hfu H locs ls hP hD hS hl
        refine lv_iload_n hx hb dX4_keep_18 rfl (lv_at hl 0 rfl) ?_
        refine lv_aload_n hx hb dX4_keep_19 rfl (lv_at hl 1 rfl) ?_
        refine va_get (D := (dC, dI)) (ci := 3) (v := .int (nI (2 ^ k))) (C := RX4) (T := TX4) (N := 10) hx hb hts (by decide +kernel) hown hK hP 0 rfl rfl 1 (by decide) (hts (.fieldLink RX4 7 "ThreePrimesModel" "n" "I") (by decide +kernel)) (fun _ h9 => h9) rfl dX4_keep_20 ?_
        refine lv_icmp_ge (tgt := 52) hx hb dX4_keep_23 (by decide) (fun c_2 => ?_) (fun c_2 => ?_)
        · have c_2 : 2 ^ k ≤ t := (nI_leI (a := 2 ^ k) (b := t) (by omega) (by omega)).mp c_2
          rw [show mix (fun i => iI (LW i)) fa t = mix (fun i => iI (LW i)) fa (2 ^ k) from by rw [show t = 2 ^ k by omega]] at hP hD
          have hP : va_P (dC, dI) vwCl [(mo, .inr (3, [.int (nI 0), .int (nI (2 ^ k)), .ref ma, .ref mb, .int (nI rs), .ref lo, .ref hi, .ref kp, .ref ot, .ref su])), (ma, .inl (cI, 256, .inl (mix (fun i => iI (LW i)) fa (2 ^ k)))), (lo, .inl (cJ, 511, .inr (.inl (fun j => lI (LW j)))))] H := hP
          have hD : va_D A [(mo, .inr (3, [.int (nI 0), .int (nI (2 ^ k)), .ref ma, .ref mb, .int (nI rs), .ref lo, .ref hi, .ref kp, .ref ot, .ref su])), (ma, .inl (cI, 256, .inl (mix (fun i => iI (LW i)) fa (2 ^ k)))), (lo, .inl (cJ, 511, .inr (.inl (fun j => lI (LW j)))))] := hD
          have hP9 : va_P (dC, dI) vwCl [(mo, .inr (3, [.int (nI 0), .int (nI (2 ^ k)), .ref ma, .ref mb, .int (nI rs), .ref lo, .ref hi, .ref kp, .ref ot, .ref su])), (ma, .inl (cI, 256, .inl (mix (fun i => iI (LW i)) fa (2 ^ k)))), (lo, .inl (cJ, 511, .inr (.inl (fun j => lI (LW j)))))] H := hP.sub [0, 1, 2] rfl
          have hD9 : va_D A [(mo, .inr (3, [.int (nI 0), .int (nI (2 ^ k)), .ref ma, .ref mb, .int (nI rs), .ref lo, .ref hi, .ref kp, .ref ot, .ref su])), (ma, .inl (cI, 256, .inl (mix (fun i => iI (LW i)) fa (2 ^ k)))), (lo, .inl (cJ, 511, .inr (.inl (fun j => lI (LW j)))))] := hD.sub [0, 1, 2] (by decide) rfl
          exact W.vret hx hb hr (fun tq9 ht hW => ⟨⟨(), rfl, trivial, by rw [ht]; exact hP9, hD9⟩, hS.F ht⟩) hS.2.2 dX4_keep_52
        · have c_2 : ¬ (2 ^ k ≤ t) := fun zq9 => c_2 ((nI_leI (a := 2 ^ k) (b := t) (by omega) (by omega)).mpr zq9)
          refine lv_aload_n hx hb dX4_keep_26 rfl (lv_at hl 1 rfl) ?_
          refine va_get (D := (dC, dI)) (ci := 3) (v := .int (nI 0)) (C := RX4) (T := TX4) (N := 10) hx hb hts (by decide +kernel) hown hK hP 0 rfl rfl 0 (by decide) (hts (.fieldLink RX4 36 "ThreePrimesModel" "thrown" "I") (by decide +kernel)) (fun _ h9 => h9) rfl dX4_keep_27 ?_
          refine lv_if_ne (tgt := 52) hx hb dX4_keep_30 (by decide) (fun c_3 => ?_) (fun c_3 => ?_)
          · have c_3 : ¬ (0 = 0) := fun zq9 => c_3 ((nI_eq (a := 0) (b := 0) (by omega) (by omega)).mpr zq9)
            omega
          · have c_3 : 0 = 0 := (nI_eq (a := 0) (b := 0) (by omega) (by omega)).mp c_3
            refine lv_aload_n hx hb dX4_keep_33 rfl (lv_at hl 1 rfl) ?_
            refine va_get (D := (dC, dI)) (ci := 3) (v := .ref ma) (C := RX4) (T := TX4) (N := 10) hx hb hts (by decide +kernel) hown hK hP 0 rfl rfl 2 (by decide) (hts (.fieldLink RX4 13 "ThreePrimesModel" "a" "[I") (by decide +kernel)) (fun _ h9 => h9) rfl dX4_keep_34 ?_
            refine lv_iload_n hx hb dX4_keep_37 rfl (lv_at hl 0 rfl) ?_
            refine lv_aload_n hx hb dX4_keep_38 rfl (lv_at hl 1 rfl) ?_
            refine va_get (D := (dC, dI)) (ci := 3) (v := .ref lo) (C := RX4) (T := TX4) (N := 10) hx hb hts (by decide +kernel) hown hK hP 0 rfl rfl 5 (by decide) (hts (.fieldLink RX4 20 "ThreePrimesModel" "low" "[J") (by decide +kernel)) (fun _ h9 => h9) rfl dX4_keep_39 ?_
            refine lv_iload_n hx hb dX4_keep_42 rfl (lv_at hl 0 rfl) ?_
            refine va_lald hx hb hK hP 2 1 rfl rfl (vp_in_nI (by omega) (by omega)) dX4_keep_43 ?_
            refine W.eq (g2 := F0 m _ ls [.long (lI (LW t)), .int (nI t), .ref ma]) (by rw [nI_clamp (by omega)]) ?_
            refine lv_l2i (v := iI (LW t)) hx hb dX4_keep_44 (lI_i (LW t)) ?_
            refine va_iast hx hb hK hP hD hS 1 0 rfl rfl (vp_in_nI (by omega) (by omega)) dX4_keep_45 (fun H locs hP hD hS => ?_)
            rw [nI_clamp (show t < 2 ^ 31 by omega)] at hP hD
            have hP : va_P (dC, dI) vwCl [(mo, .inr (3, [.int (nI 0), .int (nI (2 ^ k)), .ref ma, .ref mb, .int (nI rs), .ref lo, .ref hi, .ref kp, .ref ot, .ref su])), (ma, .inl (cI, 256, .inl (upd (mix (fun i => iI (LW i)) fa t) t (iI (LW t))))), (lo, .inl (cJ, 511, .inr (.inl (fun j => lI (LW j)))))] H := hP
            have hD : va_D A [(mo, .inr (3, [.int (nI 0), .int (nI (2 ^ k)), .ref ma, .ref mb, .int (nI rs), .ref lo, .ref hi, .ref kp, .ref ot, .ref su])), (ma, .inl (cI, 256, .inl (upd (mix (fun i => iI (LW i)) fa t) t (iI (LW t))))), (lo, .inl (cJ, 511, .inr (.inl (fun j => lI (LW j)))))] := hD
            rw [show upd (mix (fun i => iI (LW i)) fa t) t (iI (LW t)) = mix (fun i => iI (LW i)) fa (t + 1) from mix_s (f := fun i => iI (LW i))] at hP hD
            have hP : va_P (dC, dI) vwCl [(mo, .inr (3, [.int (nI 0), .int (nI (2 ^ k)), .ref ma, .ref mb, .int (nI rs), .ref lo, .ref hi, .ref kp, .ref ot, .ref su])), (ma, .inl (cI, 256, .inl (mix (fun i => iI (LW i)) fa (t + 1)))), (lo, .inl (cJ, 511, .inr (.inl (fun j => lI (LW j)))))] H := hP
            have hD : va_D A [(mo, .inr (3, [.int (nI 0), .int (nI (2 ^ k)), .ref ma, .ref mb, .int (nI rs), .ref lo, .ref hi, .ref kp, .ref ot, .ref su])), (ma, .inl (cI, 256, .inl (mix (fun i => iI (LW i)) fa (t + 1)))), (lo, .inl (cJ, 511, .inr (.inl (fun j => lI (LW j)))))] := hD
            refine lv_iinc (v := nI (t + 1)) (lv' := [(1, .int (nI (t + 1))), (0, .ref mo)]) hx hb dX4_keep_46 hl (k := 0) rfl (nI_add t 1) (by decide) rfl (fun ls hl => ?_)
            refine lv_goto (tgt := 18) hx hb dX4_keep_49 (by decide) ?_
            exact ih_18  (t + 1) (by omega) (by omega) _ _ _ (hP.sub [0, 1, 2] rfl) (hD.sub [0, 1, 2] (by decide) rfl) hS (lv_sub hl [0, 1] rfl)
    exact key_18 (2 ^ k + 1) 0 (by omega) (by omega) _ _ _ (hP.sub [0, 1, 2] rfl) (hD.sub [0, 1, 2] (by decide) rfl) hS (lv_sub hl [0, 1] rfl)
  · have c_1 : rs = 0 := (nI_eq (a := rs) (b := 0) (by omega) (by omega)).mp c_1
    omega

abbrev q_X4_keep_bad (dC : Nat → ClassId) (dI : Nat → Nat → Nat) (mo ma mb lo hi kp ot su k : Nat) (tv : Int32) (A : Nat → Prop) : Array Value → State → Outcome → State → Prop := va_Qv (fun (u : Unit) => True) (fun u t => va_P (dC, dI) vwCl [(mo, .inr (3, [.int (nI 1), .int (nI (2 ^ k)), .ref ma, .ref mb, .int (nI 0), .ref lo, .ref hi, .ref kp, .ref ot, .ref su]))] t.heap ∧ va_D A [(mo, .inr (3, [.int (nI 1), .int (nI (2 ^ k)), .ref ma, .ref mb, .int (nI 0), .ref lo, .ref hi, .ref kp, .ref ot, .ref su]))]) A
set_option maxHeartbeats 4000000 in
set_option maxRecDepth 100000 in
theorem c_X4_keep_bad (l : Launch) (dC : Nat → ClassId) (dI : Nat → Nat → Nat) (mo ma mb lo hi kp ot su k : Nat) (tv : Int32) (sz : Nat) (zk1 : 1 ≤ k) (zk : k ≤ 8) : Met l yX4_keep wsX4_keep ({ frames := 0, cells := 0, slots := 0, locals := 0 }) (va_Pc [.ref mo] (fun U => U.heap.size = sz ∧ va_P (dC, dI) vwCl [(mo, .inr (3, [.int tv, .int (nI (2 ^ k)), .ref ma, .ref mb, .int (nI 0), .ref lo, .ref hi, .ref kp, .ref ot, .ref su]))] U.heap ∧ va_K (dC, dI) vwCl [] U ∧ va_D (fun _ => True) [(mo, .inr (3, [.int tv, .int (nI (2 ^ k)), .ref ma, .ref mb, .int (nI 0), .ref lo, .ref hi, .ref kp, .ref ot, .ref su]))])) (q_X4_keep_bad dC dI mo ma mb lo hi kp ot su k tv (va_A [(mo, .inr (3, [.int tv, .int (nI (2 ^ k)), .ref ma, .ref mb, .int (nI 0), .ref lo, .ref hi, .ref kp, .ref ot, .ref su]))] sz)) 0 0 (va_A [(mo, .inr (3, [.int tv, .int (nI (2 ^ k)), .ref ma, .ref mb, .int (nI 0), .ref lo, .ref hi, .ref kp, .ref ot, .ref su]))] sz) := by
  refine Met.ofW (cc := cX4_keep) (maxL := 2) (ret := none) (by decide) rfl ?_
  intro p e s m args below meth c s₁ B hml hv
  obtain ⟨rfl, hsz, hP, hK, hD0⟩ := hv
  have hx := B.exec
  have hb := B.bytes
  have hr := B.returns
  have hts := atoms_spec (ws := wsX4_keep) B.pre
  have hown : s.vm.findClass RX4 = some m.cls := findClass_of_methodNamed B.named
  have hlocks := B.notSynchronized
  subst hsz
  have hD := hD0.self (sz := s.heap.size)
  generalize hAe : va_A [(mo, .inr (3, [.int tv, .int (nI (2 ^ k)), .ref ma, .ref mb, .int (nI 0), .ref lo, .ref hi, .ref kp, .ref ot, .ref su]))] s.heap.size = A at hD ⊢
  have hA : ∀ q : Nat, s.heap.size ≤ q → A q := fun q h => by rw [← hAe]; exact Or.inr h
  have hS : va_S A s.heap s.heap [] := va_S.rf
  have hP : va_P (dC, dI) vwCl [(mo, .inr (3, [.int tv, .int (nI (2 ^ k)), .ref ma, .ref mb, .int (nI 0), .ref lo, .ref hi, .ref kp, .ref ot, .ref su]))] s.heap := hP
  have hl := lv_entry (([.ref mo] : List Value)) (n := 2) (Nat.le_of_ble_eq_true rfl)
  rw [lg_entry_eq]
  generalize (lg_sl (([.ref mo] : List Value)) ++ List.replicate (2 - (lg_sl (([.ref mo] : List Value))).length) Slot.unset).toArray = ls at hl ⊢
  have hl : lv_has ls 2 [(0, .ref mo)] := hl
  obtain ⟨H, hHe⟩ : ∃ H : Heap, H = s.heap := ⟨_, rfl⟩
  rw [← hHe] at hP
  have hS : va_S A s.heap H [] := by rw [hHe]; exact hS
  obtain ⟨locs, hlo⟩ : ∃ L : List Loc, L = [] := ⟨_, rfl⟩
  rw [← hlo] at hS ⊢
  rw [← hHe]
  have hpk := pw8 zk
  refine lv_aload_n hx hb dX4_keep_0 rfl (lv_at hl 0 rfl) ?_
  refine lv_aload_n hx hb dX4_keep_1 rfl (lv_at hl 0 rfl) ?_
  refine va_get (D := (dC, dI)) (ci := 3) (v := .int (nI 0)) (C := RX4) (T := TX4) (N := 10) hx hb hts (by decide +kernel) hown hK hP 0 rfl rfl 4 (by decide) (hts (.fieldLink RX4 39 "ThreePrimesModel" "results" "I") (by decide +kernel)) (fun _ h9 => h9) rfl dX4_keep_2 ?_
  refine lv_if_ne (tgt := 12) hx hb dX4_keep_5 (by decide) (fun c_1 => ?_) (fun c_1 => ?_)
  · have c_1 : ¬ (0 = 0) := fun zq9 => c_1 ((nI_eq (a := 0) (b := 0) (by omega) (by omega)).mpr zq9)
    omega
  · have c_1 : 0 = 0 := (nI_eq (a := 0) (b := 0) (by omega) (by omega)).mp c_1
    refine lv_iconst (v := nI 1) hx hb dX4_keep_8 (by decide) ?_
    refine lv_goto (tgt := 13) hx hb dX4_keep_9 (by decide) ?_
    refine va_put (D := (dC, dI)) (ci := 3) (v := .int (nI 1)) (ty := .int) (C := RX4) (T := TX4) (N := 10) hx hb hts (by decide +kernel) tyX4 tyX4_ok nmX4 hown hK hP hD hS 0 rfl rfl 0 (by decide) (hts (.fieldLink RX4 36 "ThreePrimesModel" "thrown" "I") (by decide +kernel)) (fun _ h9 => h9) rfl (by decide +kernel) rfl rfl (Nat.le_of_ble_eq_true rfl) dX4_keep_13 (fun H locs hP hD hS => ?_)
    have hP : va_P (dC, dI) vwCl [(mo, .inr (3, [.int (nI 1), .int (nI (2 ^ k)), .ref ma, .ref mb, .int (nI 0), .ref lo, .ref hi, .ref kp, .ref ot, .ref su]))] H := hP
    have hD : va_D A [(mo, .inr (3, [.int (nI 1), .int (nI (2 ^ k)), .ref ma, .ref mb, .int (nI 0), .ref lo, .ref hi, .ref kp, .ref ot, .ref su]))] := hD
    refine lv_iconst (v := nI 0) hx hb dX4_keep_16 (by decide) ?_
    refine lv_istore_n (lv' := [(1, .int (nI 0)), (0, .ref mo)]) hx hb dX4_keep_17 rfl hl (by decide) rfl (fun ls hl => ?_)
    refine lv_iload_n hx hb dX4_keep_18 rfl (lv_at hl 0 rfl) ?_
    refine lv_aload_n hx hb dX4_keep_19 rfl (lv_at hl 1 rfl) ?_
    refine va_get (D := (dC, dI)) (ci := 3) (v := .int (nI (2 ^ k))) (C := RX4) (T := TX4) (N := 10) hx hb hts (by decide +kernel) hown hK hP 0 rfl rfl 1 (by decide) (hts (.fieldLink RX4 7 "ThreePrimesModel" "n" "I") (by decide +kernel)) (fun _ h9 => h9) rfl dX4_keep_20 ?_
    refine lv_icmp_ge (tgt := 52) hx hb dX4_keep_23 (by decide) (fun c_2 => ?_) (fun c_2 => ?_)
    · have c_2 : 2 ^ k ≤ 0 := (nI_leI (a := 2 ^ k) (b := 0) (by omega) (by omega)).mp c_2
      omega
    · have c_2 : ¬ (2 ^ k ≤ 0) := fun zq9 => c_2 ((nI_leI (a := 2 ^ k) (b := 0) (by omega) (by omega)).mpr zq9)
      refine lv_aload_n hx hb dX4_keep_26 rfl (lv_at hl 1 rfl) ?_
      refine va_get (D := (dC, dI)) (ci := 3) (v := .int (nI 1)) (C := RX4) (T := TX4) (N := 10) hx hb hts (by decide +kernel) hown hK hP 0 rfl rfl 0 (by decide) (hts (.fieldLink RX4 36 "ThreePrimesModel" "thrown" "I") (by decide +kernel)) (fun _ h9 => h9) rfl dX4_keep_27 ?_
      refine lv_if_ne (tgt := 52) hx hb dX4_keep_30 (by decide) (fun c_3 => ?_) (fun c_3 => ?_)
      · have c_3 : ¬ (1 = 0) := fun zq9 => c_3 ((nI_eq (a := 1) (b := 0) (by omega) (by omega)).mpr zq9)
        have hP9 : va_P (dC, dI) vwCl [(mo, .inr (3, [.int (nI 1), .int (nI (2 ^ k)), .ref ma, .ref mb, .int (nI 0), .ref lo, .ref hi, .ref kp, .ref ot, .ref su]))] H := hP.sub [0] rfl
        have hD9 : va_D A [(mo, .inr (3, [.int (nI 1), .int (nI (2 ^ k)), .ref ma, .ref mb, .int (nI 0), .ref lo, .ref hi, .ref kp, .ref ot, .ref su]))] := hD.sub [0] (by decide) rfl
        exact W.vret hx hb hr (fun tq9 ht hW => ⟨⟨(), rfl, trivial, by rw [ht]; exact hP9, hD9⟩, hS.F ht⟩) hS.2.2 dX4_keep_52
      · have c_3 : 1 = 0 := (nI_eq (a := 1) (b := 0) (by omega) (by omega)).mp c_3
        omega

abbrev q_X4_product_ok (dC : Nat → ClassId) (dI : Nat → Nat → Nat) (mo ma mb lo hi kp ot su k rs : Nat) (tv : Int32) (q : Nat) (x y : Int32) (A : Nat → Prop) : Array Value → State → Outcome → State → Prop := va_Qi (fun (r : Int32) (u : Unit) => r = iI (x.toInt % (prN q : Int) * (y.toInt % (prN q : Int)) % (prN q : Int))) (fun u t => va_P (dC, dI) vwCl [(mo, .inr (3, [.int (nI 0), .int (nI (2 ^ k)), .ref ma, .ref mb, .int (nI rs), .ref lo, .ref hi, .ref kp, .ref ot, .ref su]))] t.heap ∧ va_D A [(mo, .inr (3, [.int (nI 0), .int (nI (2 ^ k)), .ref ma, .ref mb, .int (nI rs), .ref lo, .ref hi, .ref kp, .ref ot, .ref su]))]) A
set_option maxHeartbeats 4000000 in
set_option maxRecDepth 100000 in
theorem c_X4_product_ok (l : Launch) (dC : Nat → ClassId) (dI : Nat → Nat → Nat) (mo ma mb lo hi kp ot su k rs : Nat) (tv : Int32) (q : Nat) (x y : Int32) (sz : Nat) (zq : q < 3) : Met l yX4_product wsX4_product ({ frames := 1, cells := 0, slots := 0, locals := 25 }) (va_Pc [.ref mo, .int (nI q), .int x, .int y] (fun U => U.heap.size = sz ∧ va_P (dC, dI) vwCl [(mo, .inr (3, [.int tv, .int (nI (2 ^ k)), .ref ma, .ref mb, .int (nI rs), .ref lo, .ref hi, .ref kp, .ref ot, .ref su]))] U.heap ∧ va_K (dC, dI) vwCl [] U ∧ va_D (fun _ => True) [(mo, .inr (3, [.int tv, .int (nI (2 ^ k)), .ref ma, .ref mb, .int (nI rs), .ref lo, .ref hi, .ref kp, .ref ot, .ref su]))])) (q_X4_product_ok dC dI mo ma mb lo hi kp ot su k rs tv q x y (va_A [(mo, .inr (3, [.int tv, .int (nI (2 ^ k)), .ref ma, .ref mb, .int (nI rs), .ref lo, .ref hi, .ref kp, .ref ot, .ref su]))] sz)) 0 0 (va_A [(mo, .inr (3, [.int tv, .int (nI (2 ^ k)), .ref ma, .ref mb, .int (nI rs), .ref lo, .ref hi, .ref kp, .ref ot, .ref su]))] sz) := by
  refine Met.ofW (cc := cX4_product) (maxL := 6) (ret := (some .int)) (by decide) rfl ?_
  intro p e s m args below meth c s₁ B hml hv
  obtain ⟨rfl, hsz, hP, hK, hD0⟩ := hv
  have hx := B.exec
  have hb := B.bytes
  have hr := B.returns
  have hts := atoms_spec (ws := wsX4_product) B.pre
  have hown : s.vm.findClass RX4 = some m.cls := findClass_of_methodNamed B.named
  have hlocks := B.notSynchronized
  subst hsz
  have hD := hD0.self (sz := s.heap.size)
  generalize hAe : va_A [(mo, .inr (3, [.int tv, .int (nI (2 ^ k)), .ref ma, .ref mb, .int (nI rs), .ref lo, .ref hi, .ref kp, .ref ot, .ref su]))] s.heap.size = A at hD ⊢
  have hA : ∀ q : Nat, s.heap.size ≤ q → A q := fun q h => by rw [← hAe]; exact Or.inr h
  have hS : va_S A s.heap s.heap [] := va_S.rf
  have hP : va_P (dC, dI) vwCl [(mo, .inr (3, [.int tv, .int (nI (2 ^ k)), .ref ma, .ref mb, .int (nI rs), .ref lo, .ref hi, .ref kp, .ref ot, .ref su]))] s.heap := hP
  have hl := lv_entry (([.ref mo, .int (nI q), .int x, .int y] : List Value)) (n := 6) (Nat.le_of_ble_eq_true rfl)
  rw [lg_entry_eq]
  generalize (lg_sl (([.ref mo, .int (nI q), .int x, .int y] : List Value)) ++ List.replicate (6 - (lg_sl (([.ref mo, .int (nI q), .int x, .int y] : List Value))).length) Slot.unset).toArray = ls at hl ⊢
  have hl : lv_has ls 6 [(0, .ref mo), (1, .int (nI q)), (2, .int x), (3, .int y)] := hl
  obtain ⟨H, hHe⟩ : ∃ H : Heap, H = s.heap := ⟨_, rfl⟩
  rw [← hHe] at hP
  have hS : va_S A s.heap H [] := by rw [hHe]; exact hS
  obtain ⟨locs, hlo⟩ : ∃ L : List Loc, L = [] := ⟨_, rfl⟩
  rw [← hlo] at hS ⊢
  rw [← hHe]
  have hpr := prN_b q
  have x1 := i32b x
  have y1 := i32b y
  have x2 := emod_rng x.toInt (show (0 : Int) < prN q by omega)
  have y2 := emod_rng y.toInt (show (0 : Int) < prN q by omega)
  have m1 := mul_b30 x2.1 x2.2 y2.1 y2.2 (by omega)
  refine lv_aload_n hx hb dX4_product_0 rfl (lv_at hl 0 rfl) ?_
  refine lv_iload_n hx hb dX4_product_1 rfl (lv_at hl 1 rfl) ?_
  have hPc := hP.sub (ws' := []) [] rfl
  have hDc := hD.sub (ws' := []) [] (by decide) rfl
  have hKc := hK.sub (tys' := []) [] rfl
  have hFc := va_free (wc := []) hD hS hA [] rfl
  refine va_calli (va_runS (As := [.int (nI q)]) (rest := [.ref mo]) ⟨hx, hb, hml, hown, hts⟩ (c_X4_noPrime_ok l dC dI q H.size (by omega)) (va_cwS 1 hts gX4_product_X4_noPrime rfl rfl rfl (by decide +kernel) ⟨Nat.le_of_ble_eq_true rfl, Nat.le_of_ble_eq_true rfl⟩) ⟨fun a U g mk q => by obtain ⟨q0, q1, qP, qK, qD⟩ := q; exact ⟨q0, q1, qP, va_K.moved (u := U) (U := U.calling g mk a) (Vm.Alike.refl U.vm) qK, qD⟩, fun U hU hW => ⟨rfl, by rw [hU], by rw [hU]; exact hPc, va_K.moved hW.alike hKc, hDc.weaken (fun _ _ _ _ => trivial)⟩⟩ rfl rfl hl.1 rfl (lv_room (Nat.le_of_ble_eq_true rfl)) dX4_product_2 ⟨Nat.le_of_ble_eq_true rfl, Nat.le_of_ble_eq_true rfl⟩) hS (fun q _ h => hFc q h) hFc (fun r9 u9 t9 H1 locs ht hvm hw hB hz1 hk1 hS => ?_)
  obtain ⟨hP1, hD1⟩ := hB
  rw [ht] at hP1
  try dsimp only at hw
  obtain ⟨hP, hD⟩ := va_join (wr := [(mo, .inr (3, [.int tv, .int (nI (2 ^ k)), .ref ma, .ref mb, .int (nI rs), .ref lo, .ref hi, .ref kp, .ref ot, .ref su]))]) (w1 := []) hP hD [] [0] rfl rfl (by decide) (by decide) hk1 hFc hP1 hD1
  generalize H1 = H at hP hS ⊢
  have hP : va_P (dC, dI) vwCl [(mo, .inr (3, [.int tv, .int (nI (2 ^ k)), .ref ma, .ref mb, .int (nI rs), .ref lo, .ref hi, .ref kp, .ref ot, .ref su]))] H := hP
  have hD : va_D A [(mo, .inr (3, [.int tv, .int (nI (2 ^ k)), .ref ma, .ref mb, .int (nI rs), .ref lo, .ref hi, .ref kp, .ref ot, .ref su]))] := hD
  clear hPc hDc hKc hFc hP1 hD1 hk1 hz1 hvm ht
  subst hw
  refine lv_if_eq (tgt := 12) hx hb dX4_product_5 (by decide) (fun c_1 => ?_) (fun c_1 => ?_)
  · have c_1 : 0 = 0 := (nI_eq (a := 0) (b := 0) (by omega) (by omega)).mp c_1
    refine lv_iconst (v := nI 0) hx hb dX4_product_12 (by decide) ?_
    refine va_put (D := (dC, dI)) (ci := 3) (v := .int (nI 0)) (ty := .int) (C := RX4) (T := TX4) (N := 10) hx hb hts (by decide +kernel) tyX4 tyX4_ok nmX4 hown hK hP hD hS 0 rfl rfl 0 (by decide) (hts (.fieldLink RX4 36 "ThreePrimesModel" "thrown" "I") (by decide +kernel)) (fun _ h9 => h9) rfl (by decide +kernel) rfl rfl (Nat.le_of_ble_eq_true rfl) dX4_product_13 (fun H locs hP hD hS => ?_)
    have hP : va_P (dC, dI) vwCl [(mo, .inr (3, [.int (nI 0), .int (nI (2 ^ k)), .ref ma, .ref mb, .int (nI rs), .ref lo, .ref hi, .ref kp, .ref ot, .ref su]))] H := hP
    have hD : va_D A [(mo, .inr (3, [.int (nI 0), .int (nI (2 ^ k)), .ref ma, .ref mb, .int (nI rs), .ref lo, .ref hi, .ref kp, .ref ot, .ref su]))] := hD
    refine lv_aload_n hx hb dX4_product_16 rfl (lv_at hl 0 rfl) ?_
    refine va_get (D := (dC, dI)) (ci := 3) (v := .int (nI 0)) (C := RX4) (T := TX4) (N := 10) hx hb hts (by decide +kernel) hown hK hP 0 rfl rfl 0 (by decide) (hts (.fieldLink RX4 36 "ThreePrimesModel" "thrown" "I") (by decide +kernel)) (fun _ h9 => h9) rfl dX4_product_17 ?_
    refine lv_if_le (tgt := 25) hx hb dX4_product_20 (by decide) (fun c_2 => ?_) (fun c_2 => ?_)
    · have c_2 : 0 ≤ 0 := (nI_leI (a := 0) (b := 0) (by omega) (by omega)).mp c_2
      refine lv_iload_n hx hb dX4_product_25 rfl (lv_at hl 1 rfl) ?_
      have hPc := hP.sub (ws' := []) [] rfl
      have hDc := hD.sub (ws' := []) [] (by decide) rfl
      have hKc := hK.sub (tys' := []) [] rfl
      have hFc := va_free (wc := []) hD hS hA [] rfl
      refine va_calll (va_runS (As := [.int (nI q)]) (rest := []) ⟨hx, hb, hml, hown, hts⟩ (c_X4_prime l dC dI q H.size (by omega)) (va_cwS 1 hts gX4_product_X4_prime rfl rfl rfl (by decide +kernel) ⟨Nat.le_of_ble_eq_true rfl, Nat.le_of_ble_eq_true rfl⟩) ⟨fun a U g mk q => by obtain ⟨q0, q1, qP, qK, qD⟩ := q; exact ⟨q0, q1, qP, va_K.moved (u := U) (U := U.calling g mk a) (Vm.Alike.refl U.vm) qK, qD⟩, fun U hU hW => ⟨rfl, by rw [hU], by rw [hU]; exact hPc, va_K.moved hW.alike hKc, hDc.weaken (fun _ _ _ _ => trivial)⟩⟩ rfl rfl hl.1 rfl (lv_room (Nat.le_of_ble_eq_true rfl)) dX4_product_26 ⟨Nat.le_of_ble_eq_true rfl, Nat.le_of_ble_eq_true rfl⟩) hS (fun q _ h => hFc q h) hFc (fun r9 u9 t9 H1 locs ht hvm hw hB hz1 hk1 hS => ?_)
      obtain ⟨hP1, hD1⟩ := hB
      rw [ht] at hP1
      try dsimp only at hw
      obtain ⟨hP, hD⟩ := va_join (wr := [(mo, .inr (3, [.int (nI 0), .int (nI (2 ^ k)), .ref ma, .ref mb, .int (nI rs), .ref lo, .ref hi, .ref kp, .ref ot, .ref su]))]) (w1 := []) hP hD [] [0] rfl rfl (by decide) (by decide) hk1 hFc hP1 hD1
      generalize H1 = H at hP hS ⊢
      have hP : va_P (dC, dI) vwCl [(mo, .inr (3, [.int (nI 0), .int (nI (2 ^ k)), .ref ma, .ref mb, .int (nI rs), .ref lo, .ref hi, .ref kp, .ref ot, .ref su]))] H := hP
      have hD : va_D A [(mo, .inr (3, [.int (nI 0), .int (nI (2 ^ k)), .ref ma, .ref mb, .int (nI rs), .ref lo, .ref hi, .ref kp, .ref ot, .ref su]))] := hD
      clear hPc hDc hKc hFc hP1 hD1 hk1 hz1 hvm ht
      subst hw
      refine lv_lstore (lv' := [(4, .long (lI ((prN q : Nat) : Int))), (0, .ref mo), (1, .int (nI q)), (2, .int x), (3, .int y)]) hx hb dX4_product_29 hl (by decide) rfl (fun ls hl => ?_)
      refine lv_iload_n hx hb dX4_product_31 rfl (lv_at hl 3 rfl) ?_
      refine lv_i2l (v := lI x.toInt) hx hb dX4_product_32 (i2l_I x) ?_
      refine lv_lload hx hb dX4_product_33 (lv_at hl 0 rfl) ?_
      have hPc := hP.sub (ws' := []) [] rfl
      have hDc := hD.sub (ws' := []) [] (by decide) rfl
      have hKc := hK.sub (tys' := []) [] rfl
      have hFc := va_free (wc := []) hD hS hA [] rfl
      refine va_calll (va_runS (As := [.long (lI x.toInt), .long (lI ((prN q : Nat) : Int))]) (rest := []) ⟨hx, hb, hml, hown, hts⟩ (c_X4_restOf l dC dI x.toInt (prN q) H.size (by omega) (by omega) (by omega) (by omega)) (va_cwS 2 hts gX4_product_X4_restOf rfl rfl rfl (by decide +kernel) ⟨Nat.le_of_ble_eq_true rfl, Nat.le_of_ble_eq_true rfl⟩) ⟨fun a U g mk q => by obtain ⟨q0, q1, qP, qK, qD⟩ := q; exact ⟨q0, q1, qP, va_K.moved (u := U) (U := U.calling g mk a) (Vm.Alike.refl U.vm) qK, qD⟩, fun U hU hW => ⟨rfl, by rw [hU], by rw [hU]; exact hPc, va_K.moved hW.alike hKc, hDc.weaken (fun _ _ _ _ => trivial)⟩⟩ rfl rfl hl.1 rfl (lv_room (Nat.le_of_ble_eq_true rfl)) dX4_product_35 ⟨Nat.le_of_ble_eq_true rfl, Nat.le_of_ble_eq_true rfl⟩) hS (fun q _ h => hFc q h) hFc (fun r9 u9 t9 H1 locs ht hvm hw hB hz1 hk1 hS => ?_)
      obtain ⟨hP1, hD1⟩ := hB
      rw [ht] at hP1
      try dsimp only at hw
      obtain ⟨hP, hD⟩ := va_join (wr := [(mo, .inr (3, [.int (nI 0), .int (nI (2 ^ k)), .ref ma, .ref mb, .int (nI rs), .ref lo, .ref hi, .ref kp, .ref ot, .ref su]))]) (w1 := []) hP hD [] [0] rfl rfl (by decide) (by decide) hk1 hFc hP1 hD1
      generalize H1 = H at hP hS ⊢
      have hP : va_P (dC, dI) vwCl [(mo, .inr (3, [.int (nI 0), .int (nI (2 ^ k)), .ref ma, .ref mb, .int (nI rs), .ref lo, .ref hi, .ref kp, .ref ot, .ref su]))] H := hP
      have hD : va_D A [(mo, .inr (3, [.int (nI 0), .int (nI (2 ^ k)), .ref ma, .ref mb, .int (nI rs), .ref lo, .ref hi, .ref kp, .ref ot, .ref su]))] := hD
      clear hPc hDc hKc hFc hP1 hD1 hk1 hz1 hvm ht
      subst hw
      refine lv_iload_n hx hb dX4_product_38 rfl (lv_at hl 4 rfl) ?_
      refine lv_i2l (v := lI y.toInt) hx hb dX4_product_39 (i2l_I y) ?_
      refine lv_lload hx hb dX4_product_40 (lv_at hl 0 rfl) ?_
      have hPc := hP.sub (ws' := []) [] rfl
      have hDc := hD.sub (ws' := []) [] (by decide) rfl
      have hKc := hK.sub (tys' := []) [] rfl
      have hFc := va_free (wc := []) hD hS hA [] rfl
      refine va_calll (va_runS (As := [.long (lI y.toInt), .long (lI ((prN q : Nat) : Int))]) (rest := [.long (lI (x.toInt % ((prN q : Nat) : Int)))]) ⟨hx, hb, hml, hown, hts⟩ (c_X4_restOf l dC dI y.toInt (prN q) H.size (by omega) (by omega) (by omega) (by omega)) (va_cwS 2 hts gX4_product_X4_restOf rfl rfl rfl (by decide +kernel) ⟨Nat.le_of_ble_eq_true rfl, Nat.le_of_ble_eq_true rfl⟩) ⟨fun a U g mk q => by obtain ⟨q0, q1, qP, qK, qD⟩ := q; exact ⟨q0, q1, qP, va_K.moved (u := U) (U := U.calling g mk a) (Vm.Alike.refl U.vm) qK, qD⟩, fun U hU hW => ⟨rfl, by rw [hU], by rw [hU]; exact hPc, va_K.moved hW.alike hKc, hDc.weaken (fun _ _ _ _ => trivial)⟩⟩ rfl rfl hl.1 rfl (lv_room (Nat.le_of_ble_eq_true rfl)) dX4_product_42 ⟨Nat.le_of_ble_eq_true rfl, Nat.le_of_ble_eq_true rfl⟩) hS (fun q _ h => hFc q h) hFc (fun r9 u9 t9 H1 locs ht hvm hw hB hz1 hk1 hS => ?_)
      obtain ⟨hP1, hD1⟩ := hB
      rw [ht] at hP1
      try dsimp only at hw
      obtain ⟨hP, hD⟩ := va_join (wr := [(mo, .inr (3, [.int (nI 0), .int (nI (2 ^ k)), .ref ma, .ref mb, .int (nI rs), .ref lo, .ref hi, .ref kp, .ref ot, .ref su]))]) (w1 := []) hP hD [] [0] rfl rfl (by decide) (by decide) hk1 hFc hP1 hD1
      generalize H1 = H at hP hS ⊢
      have hP : va_P (dC, dI) vwCl [(mo, .inr (3, [.int (nI 0), .int (nI (2 ^ k)), .ref ma, .ref mb, .int (nI rs), .ref lo, .ref hi, .ref kp, .ref ot, .ref su]))] H := hP
      have hD : va_D A [(mo, .inr (3, [.int (nI 0), .int (nI (2 ^ k)), .ref ma, .ref mb, .int (nI rs), .ref lo, .ref hi, .ref kp, .ref ot, .ref su]))] := hD
      clear hPc hDc hKc hFc hP1 hD1 hk1 hz1 hvm ht
      subst hw
      refine lv_lmul hx hb dX4_product_45 ?_
      refine W.eq (congrArg (fun z => F0 m _ ls (.long z :: _)) (show lI (x.toInt % ((prN q : Nat) : Int)) * lI (y.toInt % ((prN q : Nat) : Int)) = lI ((x.toInt % ((prN q : Nat) : Int)) * (y.toInt % ((prN q : Nat) : Int))) from lI_mul (x.toInt % ((prN q : Nat) : Int)) (y.toInt % ((prN q : Nat) : Int)))) ?_
      refine lv_lload hx hb dX4_product_46 (lv_at hl 0 rfl) ?_
      refine lv_lrem hx hb dX4_product_48 (fun zq9 => absurd ((lI_eq (b := 0) (by omega) (by omega) (by omega) (by omega)).mp zq9) (by omega)) ?_
      refine W.eq (congrArg (fun z => F0 m _ ls (.long z :: _)) (show lI ((x.toInt % ((prN q : Nat) : Int)) * (y.toInt % ((prN q : Nat) : Int))) - lI ((x.toInt % ((prN q : Nat) : Int)) * (y.toInt % ((prN q : Nat) : Int))) / lI ((prN q : Nat) : Int) * lI ((prN q : Nat) : Int) = lI (((x.toInt % ((prN q : Nat) : Int)) * (y.toInt % ((prN q : Nat) : Int))) % ((prN q : Nat) : Int)) from lI_rem0 (by omega) (by omega) (by omega) (by omega))) ?_
      refine lv_l2i (v := iI (((x.toInt % ((prN q : Nat) : Int)) * (y.toInt % ((prN q : Nat) : Int))) % ((prN q : Nat) : Int))) hx hb dX4_product_49 (lI_i (((x.toInt % ((prN q : Nat) : Int)) * (y.toInt % ((prN q : Nat) : Int))) % ((prN q : Nat) : Int))) ?_
      have hP9 : va_P (dC, dI) vwCl [(mo, .inr (3, [.int (nI 0), .int (nI (2 ^ k)), .ref ma, .ref mb, .int (nI rs), .ref lo, .ref hi, .ref kp, .ref ot, .ref su]))] H := hP.sub [0] rfl
      have hD9 : va_D A [(mo, .inr (3, [.int (nI 0), .int (nI (2 ^ k)), .ref ma, .ref mb, .int (nI rs), .ref lo, .ref hi, .ref kp, .ref ot, .ref su]))] := hD.sub [0] (by decide) rfl
      exact W.iret (v := iI (((x.toInt % ((prN q : Nat) : Int)) * (y.toInt % ((prN q : Nat) : Int))) % ((prN q : Nat) : Int))) hx hb hr (fun tq9 ht hW => ⟨⟨iI (((x.toInt % ((prN q : Nat) : Int)) * (y.toInt % ((prN q : Nat) : Int))) % ((prN q : Nat) : Int)), (), rfl, rfl, by rw [ht]; exact hP9, hD9⟩, hS.F ht⟩) hS.2.2 dX4_product_50
    · have c_2 : ¬ (0 ≤ 0) := fun zq9 => c_2 ((nI_leI (a := 0) (b := 0) (by omega) (by omega)).mpr zq9)
      omega
  · have c_1 : ¬ (0 = 0) := fun zq9 => c_1 ((nI_eq (a := 0) (b := 0) (by omega) (by omega)).mpr zq9)
    omega

abbrev q_X4_product_bad (dC : Nat → ClassId) (dI : Nat → Nat → Nat) (mo ma mb lo hi kp ot su k rs : Nat) (tv : Int32) (i x y : Int32) (A : Nat → Prop) : Array Value → State → Outcome → State → Prop := va_Qi (fun (r : Int32) (u : Unit) => True) (fun u t => va_P (dC, dI) vwCl [(mo, .inr (3, [.int (nI 1), .int (nI (2 ^ k)), .ref ma, .ref mb, .int (nI rs), .ref lo, .ref hi, .ref kp, .ref ot, .ref su]))] t.heap ∧ va_D A [(mo, .inr (3, [.int (nI 1), .int (nI (2 ^ k)), .ref ma, .ref mb, .int (nI rs), .ref lo, .ref hi, .ref kp, .ref ot, .ref su]))]) A
set_option maxHeartbeats 4000000 in
set_option maxRecDepth 100000 in
theorem c_X4_product_bad (l : Launch) (dC : Nat → ClassId) (dI : Nat → Nat → Nat) (mo ma mb lo hi kp ot su k rs : Nat) (tv : Int32) (i x y : Int32) (sz : Nat) (hbad : i < 0 ∨ nI 3 ≤ i) : Met l yX4_product wsX4_product ({ frames := 1, cells := 0, slots := 0, locals := 20 }) (va_Pc [.ref mo, .int i, .int x, .int y] (fun U => U.heap.size = sz ∧ va_P (dC, dI) vwCl [(mo, .inr (3, [.int tv, .int (nI (2 ^ k)), .ref ma, .ref mb, .int (nI rs), .ref lo, .ref hi, .ref kp, .ref ot, .ref su]))] U.heap ∧ va_K (dC, dI) vwCl [] U ∧ va_D (fun _ => True) [(mo, .inr (3, [.int tv, .int (nI (2 ^ k)), .ref ma, .ref mb, .int (nI rs), .ref lo, .ref hi, .ref kp, .ref ot, .ref su]))])) (q_X4_product_bad dC dI mo ma mb lo hi kp ot su k rs tv i x y (va_A [(mo, .inr (3, [.int tv, .int (nI (2 ^ k)), .ref ma, .ref mb, .int (nI rs), .ref lo, .ref hi, .ref kp, .ref ot, .ref su]))] sz)) 0 0 (va_A [(mo, .inr (3, [.int tv, .int (nI (2 ^ k)), .ref ma, .ref mb, .int (nI rs), .ref lo, .ref hi, .ref kp, .ref ot, .ref su]))] sz) := by
  refine Met.ofW (cc := cX4_product) (maxL := 6) (ret := (some .int)) (by decide) rfl ?_
  intro p e s m args below meth c s₁ B hml hv
  obtain ⟨rfl, hsz, hP, hK, hD0⟩ := hv
  have hx := B.exec
  have hb := B.bytes
  have hr := B.returns
  have hts := atoms_spec (ws := wsX4_product) B.pre
  have hown : s.vm.findClass RX4 = some m.cls := findClass_of_methodNamed B.named
  have hlocks := B.notSynchronized
  subst hsz
  have hD := hD0.self (sz := s.heap.size)
  generalize hAe : va_A [(mo, .inr (3, [.int tv, .int (nI (2 ^ k)), .ref ma, .ref mb, .int (nI rs), .ref lo, .ref hi, .ref kp, .ref ot, .ref su]))] s.heap.size = A at hD ⊢
  have hA : ∀ q : Nat, s.heap.size ≤ q → A q := fun q h => by rw [← hAe]; exact Or.inr h
  have hS : va_S A s.heap s.heap [] := va_S.rf
  have hP : va_P (dC, dI) vwCl [(mo, .inr (3, [.int tv, .int (nI (2 ^ k)), .ref ma, .ref mb, .int (nI rs), .ref lo, .ref hi, .ref kp, .ref ot, .ref su]))] s.heap := hP
  have hl := lv_entry (([.ref mo, .int i, .int x, .int y] : List Value)) (n := 6) (Nat.le_of_ble_eq_true rfl)
  rw [lg_entry_eq]
  generalize (lg_sl (([.ref mo, .int i, .int x, .int y] : List Value)) ++ List.replicate (6 - (lg_sl (([.ref mo, .int i, .int x, .int y] : List Value))).length) Slot.unset).toArray = ls at hl ⊢
  have hl : lv_has ls 6 [(0, .ref mo), (1, .int i), (2, .int x), (3, .int y)] := hl
  obtain ⟨H, hHe⟩ : ∃ H : Heap, H = s.heap := ⟨_, rfl⟩
  rw [← hHe] at hP
  have hS : va_S A s.heap H [] := by rw [hHe]; exact hS
  obtain ⟨locs, hlo⟩ : ∃ L : List Loc, L = [] := ⟨_, rfl⟩
  rw [← hlo] at hS ⊢
  rw [← hHe]
  refine lv_aload_n hx hb dX4_product_0 rfl (lv_at hl 0 rfl) ?_
  refine lv_iload_n hx hb dX4_product_1 rfl (lv_at hl 1 rfl) ?_
  have hPc := hP.sub (ws' := []) [] rfl
  have hDc := hD.sub (ws' := []) [] (by decide) rfl
  have hKc := hK.sub (tys' := []) [] rfl
  have hFc := va_free (wc := []) hD hS hA [] rfl
  refine va_calli (va_runS (As := [.int i]) (rest := [.ref mo]) ⟨hx, hb, hml, hown, hts⟩ (c_X4_noPrime_bad l dC dI i H.size hbad) (va_cwS 1 hts gX4_product_X4_noPrime rfl rfl rfl (by decide +kernel) ⟨Nat.le_of_ble_eq_true rfl, Nat.le_of_ble_eq_true rfl⟩) ⟨fun a U g mk q => by obtain ⟨q0, q1, qP, qK, qD⟩ := q; exact ⟨q0, q1, qP, va_K.moved (u := U) (U := U.calling g mk a) (Vm.Alike.refl U.vm) qK, qD⟩, fun U hU hW => ⟨rfl, by rw [hU], by rw [hU]; exact hPc, va_K.moved hW.alike hKc, hDc.weaken (fun _ _ _ _ => trivial)⟩⟩ rfl rfl hl.1 rfl (lv_room (Nat.le_of_ble_eq_true rfl)) dX4_product_2 ⟨Nat.le_of_ble_eq_true rfl, Nat.le_of_ble_eq_true rfl⟩) hS (fun q _ h => hFc q h) hFc (fun r9 u9 t9 H1 locs ht hvm hw hB hz1 hk1 hS => ?_)
  obtain ⟨hP1, hD1⟩ := hB
  rw [ht] at hP1
  try dsimp only at hw
  obtain ⟨hP, hD⟩ := va_join (wr := [(mo, .inr (3, [.int tv, .int (nI (2 ^ k)), .ref ma, .ref mb, .int (nI rs), .ref lo, .ref hi, .ref kp, .ref ot, .ref su]))]) (w1 := []) hP hD [] [0] rfl rfl (by decide) (by decide) hk1 hFc hP1 hD1
  generalize H1 = H at hP hS ⊢
  have hP : va_P (dC, dI) vwCl [(mo, .inr (3, [.int tv, .int (nI (2 ^ k)), .ref ma, .ref mb, .int (nI rs), .ref lo, .ref hi, .ref kp, .ref ot, .ref su]))] H := hP
  have hD : va_D A [(mo, .inr (3, [.int tv, .int (nI (2 ^ k)), .ref ma, .ref mb, .int (nI rs), .ref lo, .ref hi, .ref kp, .ref ot, .ref su]))] := hD
  clear hPc hDc hKc hFc hP1 hD1 hk1 hz1 hvm ht
  subst hw
  refine lv_if_eq (tgt := 12) hx hb dX4_product_5 (by decide) (fun c_1 => ?_) (fun c_1 => ?_)
  · have c_1 : 1 = 0 := (nI_eq (a := 1) (b := 0) (by omega) (by omega)).mp c_1
    omega
  · have c_1 : ¬ (1 = 0) := fun zq9 => c_1 ((nI_eq (a := 1) (b := 0) (by omega) (by omega)).mpr zq9)
    refine lv_iconst (v := nI 1) hx hb dX4_product_8 (by decide) ?_
    refine lv_goto (tgt := 13) hx hb dX4_product_9 (by decide) ?_
    refine va_put (D := (dC, dI)) (ci := 3) (v := .int (nI 1)) (ty := .int) (C := RX4) (T := TX4) (N := 10) hx hb hts (by decide +kernel) tyX4 tyX4_ok nmX4 hown hK hP hD hS 0 rfl rfl 0 (by decide) (hts (.fieldLink RX4 36 "ThreePrimesModel" "thrown" "I") (by decide +kernel)) (fun _ h9 => h9) rfl (by decide +kernel) rfl rfl (Nat.le_of_ble_eq_true rfl) dX4_product_13 (fun H locs hP hD hS => ?_)
    have hP : va_P (dC, dI) vwCl [(mo, .inr (3, [.int (nI 1), .int (nI (2 ^ k)), .ref ma, .ref mb, .int (nI rs), .ref lo, .ref hi, .ref kp, .ref ot, .ref su]))] H := hP
    have hD : va_D A [(mo, .inr (3, [.int (nI 1), .int (nI (2 ^ k)), .ref ma, .ref mb, .int (nI rs), .ref lo, .ref hi, .ref kp, .ref ot, .ref su]))] := hD
    refine lv_aload_n hx hb dX4_product_16 rfl (lv_at hl 0 rfl) ?_
    refine va_get (D := (dC, dI)) (ci := 3) (v := .int (nI 1)) (C := RX4) (T := TX4) (N := 10) hx hb hts (by decide +kernel) hown hK hP 0 rfl rfl 0 (by decide) (hts (.fieldLink RX4 36 "ThreePrimesModel" "thrown" "I") (by decide +kernel)) (fun _ h9 => h9) rfl dX4_product_17 ?_
    refine lv_if_le (tgt := 25) hx hb dX4_product_20 (by decide) (fun c_2 => ?_) (fun c_2 => ?_)
    · have c_2 : 1 ≤ 0 := (nI_leI (a := 1) (b := 0) (by omega) (by omega)).mp c_2
      omega
    · have c_2 : ¬ (1 ≤ 0) := fun zq9 => c_2 ((nI_leI (a := 1) (b := 0) (by omega) (by omega)).mpr zq9)
      refine lv_iconst (v := nI 0) hx hb dX4_product_23 (by decide) ?_
      have hP9 : va_P (dC, dI) vwCl [(mo, .inr (3, [.int (nI 1), .int (nI (2 ^ k)), .ref ma, .ref mb, .int (nI rs), .ref lo, .ref hi, .ref kp, .ref ot, .ref su]))] H := hP.sub [0] rfl
      have hD9 : va_D A [(mo, .inr (3, [.int (nI 1), .int (nI (2 ^ k)), .ref ma, .ref mb, .int (nI rs), .ref lo, .ref hi, .ref kp, .ref ot, .ref su]))] := hD.sub [0] (by decide) rfl
      exact W.iret (v := nI 0) hx hb hr (fun tq9 ht hW => ⟨⟨nI 0, (), rfl, trivial, by rw [ht]; exact hP9, hD9⟩, hS.F ht⟩) hS.2.2 dX4_product_24

abbrev q_X4_root_ok (dC : Nat → ClassId) (dI : Nat → Nat → Nat) (mo ma mb lo hi kp ot su k rs : Nat) (tv : Int32) (q : Nat) (e9 : Int32) (A : Nat → Prop) : Array Value → State → Outcome → State → Prop := va_Qi (fun (r : Int32) (u : Unit) => r = iI (frW k (prN q) ^ ex32 e9 k % (prN q : Int))) (fun u t => va_P (dC, dI) vwCl [(mo, .inr (3, [.int (nI 0), .int (nI (2 ^ k)), .ref ma, .ref mb, .int (nI rs), .ref lo, .ref hi, .ref kp, .ref ot, .ref su]))] t.heap ∧ va_D A [(mo, .inr (3, [.int (nI 0), .int (nI (2 ^ k)), .ref ma, .ref mb, .int (nI rs), .ref lo, .ref hi, .ref kp, .ref ot, .ref su]))]) A
set_option maxHeartbeats 4000000 in
set_option maxRecDepth 100000 in
theorem c_X4_root_ok (l : Launch) (dC : Nat → ClassId) (dI : Nat → Nat → Nat) (mo ma mb lo hi kp ot su k rs : Nat) (tv : Int32) (q : Nat) (e9 : Int32) (sz : Nat) (zk1 : 1 ≤ k) (zk : k ≤ 8) (zq : q < 3) : Met l yX4_root wsX4_root ({ frames := 2, cells := 0, slots := 0, locals := 54 }) (va_Pc [.ref mo, .int (nI q), .int e9] (fun U => U.heap.size = sz ∧ va_P (dC, dI) vwCl [(mo, .inr (3, [.int tv, .int (nI (2 ^ k)), .ref ma, .ref mb, .int (nI rs), .ref lo, .ref hi, .ref kp, .ref ot, .ref su]))] U.heap ∧ va_K (dC, dI) vwCl [] U ∧ va_D (fun _ => True) [(mo, .inr (3, [.int tv, .int (nI (2 ^ k)), .ref ma, .ref mb, .int (nI rs), .ref lo, .ref hi, .ref kp, .ref ot, .ref su]))])) (q_X4_root_ok dC dI mo ma mb lo hi kp ot su k rs tv q e9 (va_A [(mo, .inr (3, [.int tv, .int (nI (2 ^ k)), .ref ma, .ref mb, .int (nI rs), .ref lo, .ref hi, .ref kp, .ref ot, .ref su]))] sz)) 0 0 (va_A [(mo, .inr (3, [.int tv, .int (nI (2 ^ k)), .ref ma, .ref mb, .int (nI rs), .ref lo, .ref hi, .ref kp, .ref ot, .ref su]))] sz) := by
  refine Met.ofW (cc := cX4_root) (maxL := 5) (ret := (some .int)) (by decide) rfl ?_
  intro p e s m args below meth c s₁ B hml hv
  obtain ⟨rfl, hsz, hP, hK, hD0⟩ := hv
  have hx := B.exec
  have hb := B.bytes
  have hr := B.returns
  have hts := atoms_spec (ws := wsX4_root) B.pre
  have hown : s.vm.findClass RX4 = some m.cls := findClass_of_methodNamed B.named
  have hlocks := B.notSynchronized
  subst hsz
  have hD := hD0.self (sz := s.heap.size)
  generalize hAe : va_A [(mo, .inr (3, [.int tv, .int (nI (2 ^ k)), .ref ma, .ref mb, .int (nI rs), .ref lo, .ref hi, .ref kp, .ref ot, .ref su]))] s.heap.size = A at hD ⊢
  have hA : ∀ q : Nat, s.heap.size ≤ q → A q := fun q h => by rw [← hAe]; exact Or.inr h
  have hS : va_S A s.heap s.heap [] := va_S.rf
  have hP : va_P (dC, dI) vwCl [(mo, .inr (3, [.int tv, .int (nI (2 ^ k)), .ref ma, .ref mb, .int (nI rs), .ref lo, .ref hi, .ref kp, .ref ot, .ref su]))] s.heap := hP
  have hl := lv_entry (([.ref mo, .int (nI q), .int e9] : List Value)) (n := 5) (Nat.le_of_ble_eq_true rfl)
  rw [lg_entry_eq]
  generalize (lg_sl (([.ref mo, .int (nI q), .int e9] : List Value)) ++ List.replicate (5 - (lg_sl (([.ref mo, .int (nI q), .int e9] : List Value))).length) Slot.unset).toArray = ls at hl ⊢
  have hl : lv_has ls 5 [(0, .ref mo), (1, .int (nI q)), (2, .int e9)] := hl
  obtain ⟨H, hHe⟩ : ∃ H : Heap, H = s.heap := ⟨_, rfl⟩
  rw [← hHe] at hP
  have hS : va_S A s.heap H [] := by rw [hHe]; exact hS
  obtain ⟨locs, hlo⟩ : ∃ L : List Loc, L = [] := ⟨_, rfl⟩
  rw [← hlo] at hS ⊢
  rw [← hHe]
  have hpk := pw8 zk
  have hpr := prN_b q
  have hex := ex32_lt e9 (k := k)
  have e1 := i32b e9
  have hwr := emod_rng (3 ^ ((prN q - 1) / 2 ^ k)) (show (0 : Int) < prN q by omega)
  have hwf : 3 ^ ((prN q - 1) / 2 ^ k) % (prN q : Int) = frW k (prN q) := rfl
  rw [hwf] at hwr
  refine lv_aload_n hx hb dX4_root_0 rfl (lv_at hl 0 rfl) ?_
  refine lv_iload_n hx hb dX4_root_1 rfl (lv_at hl 1 rfl) ?_
  have hPc := hP.sub (ws' := []) [] rfl
  have hDc := hD.sub (ws' := []) [] (by decide) rfl
  have hKc := hK.sub (tys' := []) [] rfl
  have hFc := va_free (wc := []) hD hS hA [] rfl
  refine va_calli (va_runS (As := [.int (nI q)]) (rest := [.ref mo]) ⟨hx, hb, hml, hown, hts⟩ (c_X4_noPrime_ok l dC dI q H.size (by omega)) (va_cwS 1 hts gX4_root_X4_noPrime rfl rfl rfl (by decide +kernel) ⟨Nat.le_of_ble_eq_true rfl, Nat.le_of_ble_eq_true rfl⟩) ⟨fun a U g mk q => by obtain ⟨q0, q1, qP, qK, qD⟩ := q; exact ⟨q0, q1, qP, va_K.moved (u := U) (U := U.calling g mk a) (Vm.Alike.refl U.vm) qK, qD⟩, fun U hU hW => ⟨rfl, by rw [hU], by rw [hU]; exact hPc, va_K.moved hW.alike hKc, hDc.weaken (fun _ _ _ _ => trivial)⟩⟩ rfl rfl hl.1 rfl (lv_room (Nat.le_of_ble_eq_true rfl)) dX4_root_2 ⟨Nat.le_of_ble_eq_true rfl, Nat.le_of_ble_eq_true rfl⟩) hS (fun q _ h => hFc q h) hFc (fun r9 u9 t9 H1 locs ht hvm hw hB hz1 hk1 hS => ?_)
  obtain ⟨hP1, hD1⟩ := hB
  rw [ht] at hP1
  try dsimp only at hw
  obtain ⟨hP, hD⟩ := va_join (wr := [(mo, .inr (3, [.int tv, .int (nI (2 ^ k)), .ref ma, .ref mb, .int (nI rs), .ref lo, .ref hi, .ref kp, .ref ot, .ref su]))]) (w1 := []) hP hD [] [0] rfl rfl (by decide) (by decide) hk1 hFc hP1 hD1
  generalize H1 = H at hP hS ⊢
  have hP : va_P (dC, dI) vwCl [(mo, .inr (3, [.int tv, .int (nI (2 ^ k)), .ref ma, .ref mb, .int (nI rs), .ref lo, .ref hi, .ref kp, .ref ot, .ref su]))] H := hP
  have hD : va_D A [(mo, .inr (3, [.int tv, .int (nI (2 ^ k)), .ref ma, .ref mb, .int (nI rs), .ref lo, .ref hi, .ref kp, .ref ot, .ref su]))] := hD
  clear hPc hDc hKc hFc hP1 hD1 hk1 hz1 hvm ht
  subst hw
  refine lv_if_eq (tgt := 12) hx hb dX4_root_5 (by decide) (fun c_1 => ?_) (fun c_1 => ?_)
  · have c_1 : 0 = 0 := (nI_eq (a := 0) (b := 0) (by omega) (by omega)).mp c_1
    refine lv_iconst (v := nI 0) hx hb dX4_root_12 (by decide) ?_
    refine va_put (D := (dC, dI)) (ci := 3) (v := .int (nI 0)) (ty := .int) (C := RX4) (T := TX4) (N := 10) hx hb hts (by decide +kernel) tyX4 tyX4_ok nmX4 hown hK hP hD hS 0 rfl rfl 0 (by decide) (hts (.fieldLink RX4 36 "ThreePrimesModel" "thrown" "I") (by decide +kernel)) (fun _ h9 => h9) rfl (by decide +kernel) rfl rfl (Nat.le_of_ble_eq_true rfl) dX4_root_13 (fun H locs hP hD hS => ?_)
    have hP : va_P (dC, dI) vwCl [(mo, .inr (3, [.int (nI 0), .int (nI (2 ^ k)), .ref ma, .ref mb, .int (nI rs), .ref lo, .ref hi, .ref kp, .ref ot, .ref su]))] H := hP
    have hD : va_D A [(mo, .inr (3, [.int (nI 0), .int (nI (2 ^ k)), .ref ma, .ref mb, .int (nI rs), .ref lo, .ref hi, .ref kp, .ref ot, .ref su]))] := hD
    refine lv_aload_n hx hb dX4_root_16 rfl (lv_at hl 0 rfl) ?_
    refine va_get (D := (dC, dI)) (ci := 3) (v := .int (nI 0)) (C := RX4) (T := TX4) (N := 10) hx hb hts (by decide +kernel) hown hK hP 0 rfl rfl 0 (by decide) (hts (.fieldLink RX4 36 "ThreePrimesModel" "thrown" "I") (by decide +kernel)) (fun _ h9 => h9) rfl dX4_root_17 ?_
    refine lv_if_le (tgt := 25) hx hb dX4_root_20 (by decide) (fun c_2 => ?_) (fun c_2 => ?_)
    · have c_2 : 0 ≤ 0 := (nI_leI (a := 0) (b := 0) (by omega) (by omega)).mp c_2
      refine lv_iload_n hx hb dX4_root_25 rfl (lv_at hl 2 rfl) ?_
      refine lv_i2l (v := lI e9.toInt) hx hb dX4_root_26 (i2l_I e9) ?_
      refine lv_aload_n hx hb dX4_root_27 rfl (lv_at hl 0 rfl) ?_
      refine va_get (D := (dC, dI)) (ci := 3) (v := .int (nI (2 ^ k))) (C := RX4) (T := TX4) (N := 10) hx hb hts (by decide +kernel) hown hK hP 0 rfl rfl 1 (by decide) (hts (.fieldLink RX4 7 "ThreePrimesModel" "n" "I") (by decide +kernel)) (fun _ h9 => h9) rfl dX4_root_28 ?_
      refine lv_i2l (v := lI ((2 ^ k : Nat) : Int)) hx hb dX4_root_31 (nI_lI (by omega)) ?_
      have hPc := hP.sub (ws' := []) [] rfl
      have hDc := hD.sub (ws' := []) [] (by decide) rfl
      have hKc := hK.sub (tys' := []) [] rfl
      have hFc := va_free (wc := []) hD hS hA [] rfl
      refine va_calll (va_runS (As := [.long (lI e9.toInt), .long (lI ((2 ^ k : Nat) : Int))]) (rest := []) ⟨hx, hb, hml, hown, hts⟩ (c_X4_restOf l dC dI e9.toInt (2 ^ k) H.size (by omega) (by omega) (by omega) (by omega)) (va_cwS 2 hts gX4_root_X4_restOf rfl rfl rfl (by decide +kernel) ⟨Nat.le_of_ble_eq_true rfl, Nat.le_of_ble_eq_true rfl⟩) ⟨fun a U g mk q => by obtain ⟨q0, q1, qP, qK, qD⟩ := q; exact ⟨q0, q1, qP, va_K.moved (u := U) (U := U.calling g mk a) (Vm.Alike.refl U.vm) qK, qD⟩, fun U hU hW => ⟨rfl, by rw [hU], by rw [hU]; exact hPc, va_K.moved hW.alike hKc, hDc.weaken (fun _ _ _ _ => trivial)⟩⟩ rfl rfl hl.1 rfl (lv_room (Nat.le_of_ble_eq_true rfl)) dX4_root_32 ⟨Nat.le_of_ble_eq_true rfl, Nat.le_of_ble_eq_true rfl⟩) hS (fun q _ h => hFc q h) hFc (fun r9 u9 t9 H1 locs ht hvm hw hB hz1 hk1 hS => ?_)
      obtain ⟨hP1, hD1⟩ := hB
      rw [ht] at hP1
      try dsimp only at hw
      obtain ⟨hP, hD⟩ := va_join (wr := [(mo, .inr (3, [.int (nI 0), .int (nI (2 ^ k)), .ref ma, .ref mb, .int (nI rs), .ref lo, .ref hi, .ref kp, .ref ot, .ref su]))]) (w1 := []) hP hD [] [0] rfl rfl (by decide) (by decide) hk1 hFc hP1 hD1
      generalize H1 = H at hP hS ⊢
      have hP : va_P (dC, dI) vwCl [(mo, .inr (3, [.int (nI 0), .int (nI (2 ^ k)), .ref ma, .ref mb, .int (nI rs), .ref lo, .ref hi, .ref kp, .ref ot, .ref su]))] H := hP
      have hD : va_D A [(mo, .inr (3, [.int (nI 0), .int (nI (2 ^ k)), .ref ma, .ref mb, .int (nI rs), .ref lo, .ref hi, .ref kp, .ref ot, .ref su]))] := hD
      clear hPc hDc hKc hFc hP1 hD1 hk1 hz1 hvm ht
      subst hw
      refine W.eq (congrArg (fun z => F0 m _ ls (.long z :: _)) (show lI (e9.toInt % ((2 ^ k : Nat) : Int)) = lI ((ex32 e9 k : Nat) : Int) from congrArg lI (by unfold ex32; have h1 := emod_rng e9.toInt (show (0 : Int) < ((2 ^ k : Nat) : Int) by omega); rw [Int.natCast_pow] at h1 ⊢; have h2 : ((2 : Nat) : Int) = 2 := rfl; rw [h2] at h1 ⊢; omega))) ?_
      refine lv_lstore_n (lv' := [(3, .long (lI ((ex32 e9 k : Nat) : Int))), (0, .ref mo), (1, .int (nI q)), (2, .int e9)]) hx hb dX4_root_35 rfl hl (by decide) rfl (fun ls hl => ?_)
      refine lv_aload_n hx hb dX4_root_36 rfl (lv_at hl 1 rfl) ?_
      refine lv_iload_n hx hb dX4_root_37 rfl (lv_at hl 2 rfl) ?_
      have hPc := hP.sub (ws' := [(mo, .inr (3, [.int (nI 0), .int (nI (2 ^ k)), .ref ma, .ref mb, .int (nI rs), .ref lo, .ref hi, .ref kp, .ref ot, .ref su]))]) [0] rfl
      have hDc := hD.sub (ws' := [(mo, .inr (3, [.int (nI 0), .int (nI (2 ^ k)), .ref ma, .ref mb, .int (nI rs), .ref lo, .ref hi, .ref kp, .ref ot, .ref su]))]) [0] (by decide) rfl
      have hKc := hK.sub (tys' := []) [] rfl
      have hFc := va_free (wc := [(mo, .inr (3, [.int (nI 0), .int (nI (2 ^ k)), .ref ma, .ref mb, .int (nI rs), .ref lo, .ref hi, .ref kp, .ref ot, .ref su]))]) hD hS hA [0] rfl
      refine va_calll (va_runV (As := [.int (nI q)]) (rest := []) ⟨hx, hb, hml, hown, hts⟩ (c_X4_rootOf l dC dI mo ma mb lo hi kp ot su k rs (nI 0) q H.size (by omega) (by omega) (by omega)) (cwV 1 hts gX4_root_X4_rootOf rfl rfl rfl (by decide +kernel) ⟨Nat.le_of_ble_eq_true rfl, Nat.le_of_ble_eq_true rfl⟩) ⟨fun a U g mk q => by obtain ⟨q0, q1, qP, qK, qD⟩ := q; exact ⟨q0, q1, qP, va_K.moved (u := U) (U := U.calling g mk a) (Vm.Alike.refl U.vm) qK, qD⟩, va_recv hKc hPc (ci := 3) (q0 := 0) rfl rfl, fun U hU hW => ⟨rfl, by rw [hU], by rw [hU]; exact hPc, va_K.moved hW.alike hKc, hDc.weaken (fun _ _ _ _ => trivial)⟩⟩ rfl rfl hl.1 rfl (lv_room (Nat.le_of_ble_eq_true rfl)) dX4_root_38 ⟨Nat.le_of_ble_eq_true rfl, Nat.le_of_ble_eq_true rfl⟩) hS (fun q _ h => hFc q h) hFc (fun r9 u9 t9 H1 locs ht hvm hw hB hz1 hk1 hS => ?_)
      obtain ⟨hP1, hD1⟩ := hB
      rw [ht] at hP1
      try dsimp only at hw
      obtain ⟨hP, hD⟩ := va_join (wr := []) (w1 := [(mo, .inr (3, [.int (nI 0), .int (nI (2 ^ k)), .ref ma, .ref mb, .int (nI rs), .ref lo, .ref hi, .ref kp, .ref ot, .ref su]))]) hP hD [0] [] rfl rfl (by decide) (by decide) hk1 hFc hP1 hD1
      generalize H1 = H at hP hS ⊢
      have hP : va_P (dC, dI) vwCl [(mo, .inr (3, [.int (nI 0), .int (nI (2 ^ k)), .ref ma, .ref mb, .int (nI rs), .ref lo, .ref hi, .ref kp, .ref ot, .ref su]))] H := hP
      have hD : va_D A [(mo, .inr (3, [.int (nI 0), .int (nI (2 ^ k)), .ref ma, .ref mb, .int (nI rs), .ref lo, .ref hi, .ref kp, .ref ot, .ref su]))] := hD
      clear hPc hDc hKc hFc hP1 hD1 hk1 hz1 hvm ht
      subst hw
      refine lv_lload_n hx hb dX4_root_41 rfl (lv_at hl 0 rfl) ?_
      refine lv_iload_n hx hb dX4_root_42 rfl (lv_at hl 2 rfl) ?_
      have hPc := hP.sub (ws' := []) [] rfl
      have hDc := hD.sub (ws' := []) [] (by decide) rfl
      have hKc := hK.sub (tys' := []) [] rfl
      have hFc := va_free (wc := []) hD hS hA [] rfl
      refine va_calll (va_runS (As := [.int (nI q)]) (rest := [.long (lI ((ex32 e9 k : Nat) : Int)), .long (lI (frW k (prN q)))]) ⟨hx, hb, hml, hown, hts⟩ (c_X4_prime l dC dI q H.size (by omega)) (va_cwS 1 hts gX4_root_X4_prime rfl rfl rfl (by decide +kernel) ⟨Nat.le_of_ble_eq_true rfl, Nat.le_of_ble_eq_true rfl⟩) ⟨fun a U g mk q => by obtain ⟨q0, q1, qP, qK, qD⟩ := q; exact ⟨q0, q1, qP, va_K.moved (u := U) (U := U.calling g mk a) (Vm.Alike.refl U.vm) qK, qD⟩, fun U hU hW => ⟨rfl, by rw [hU], by rw [hU]; exact hPc, va_K.moved hW.alike hKc, hDc.weaken (fun _ _ _ _ => trivial)⟩⟩ rfl rfl hl.1 rfl (lv_room (Nat.le_of_ble_eq_true rfl)) dX4_root_43 ⟨Nat.le_of_ble_eq_true rfl, Nat.le_of_ble_eq_true rfl⟩) hS (fun q _ h => hFc q h) hFc (fun r9 u9 t9 H1 locs ht hvm hw hB hz1 hk1 hS => ?_)
      obtain ⟨hP1, hD1⟩ := hB
      rw [ht] at hP1
      try dsimp only at hw
      obtain ⟨hP, hD⟩ := va_join (wr := [(mo, .inr (3, [.int (nI 0), .int (nI (2 ^ k)), .ref ma, .ref mb, .int (nI rs), .ref lo, .ref hi, .ref kp, .ref ot, .ref su]))]) (w1 := []) hP hD [] [0] rfl rfl (by decide) (by decide) hk1 hFc hP1 hD1
      generalize H1 = H at hP hS ⊢
      have hP : va_P (dC, dI) vwCl [(mo, .inr (3, [.int (nI 0), .int (nI (2 ^ k)), .ref ma, .ref mb, .int (nI rs), .ref lo, .ref hi, .ref kp, .ref ot, .ref su]))] H := hP
      have hD : va_D A [(mo, .inr (3, [.int (nI 0), .int (nI (2 ^ k)), .ref ma, .ref mb, .int (nI rs), .ref lo, .ref hi, .ref kp, .ref ot, .ref su]))] := hD
      clear hPc hDc hKc hFc hP1 hD1 hk1 hz1 hvm ht
      subst hw
      have hPc := hP.sub (ws' := []) [] rfl
      have hDc := hD.sub (ws' := []) [] (by decide) rfl
      have hKc := hK.sub (tys' := []) [] rfl
      have hFc := va_free (wc := []) hD hS hA [] rfl
      refine va_calll (va_runS (As := [.long (lI (frW k (prN q))), .long (lI ((ex32 e9 k : Nat) : Int)), .long (lI ((prN q : Nat) : Int))]) (rest := []) ⟨hx, hb, hml, hown, hts⟩ (c_X4_raised l dC dI (frW k (prN q)) (ex32 e9 k) (prN q) H.size (by omega) (by omega) (by omega) (by omega) (by omega)) (va_cwS 3 hts gX4_root_X4_raised rfl rfl rfl (by decide +kernel) ⟨Nat.le_of_ble_eq_true rfl, Nat.le_of_ble_eq_true rfl⟩) ⟨fun a U g mk q => by obtain ⟨q0, q1, qP, qK, qD⟩ := q; exact ⟨q0, q1, qP, va_K.moved (u := U) (U := U.calling g mk a) (Vm.Alike.refl U.vm) qK, qD⟩, fun U hU hW => ⟨rfl, by rw [hU], by rw [hU]; exact hPc, va_K.moved hW.alike hKc, hDc.weaken (fun _ _ _ _ => trivial)⟩⟩ rfl rfl hl.1 rfl (lv_room (Nat.le_of_ble_eq_true rfl)) dX4_root_46 ⟨Nat.le_of_ble_eq_true rfl, Nat.le_of_ble_eq_true rfl⟩) hS (fun q _ h => hFc q h) hFc (fun r9 u9 t9 H1 locs ht hvm hw hB hz1 hk1 hS => ?_)
      obtain ⟨hP1, hD1⟩ := hB
      rw [ht] at hP1
      try dsimp only at hw
      obtain ⟨hP, hD⟩ := va_join (wr := [(mo, .inr (3, [.int (nI 0), .int (nI (2 ^ k)), .ref ma, .ref mb, .int (nI rs), .ref lo, .ref hi, .ref kp, .ref ot, .ref su]))]) (w1 := []) hP hD [] [0] rfl rfl (by decide) (by decide) hk1 hFc hP1 hD1
      generalize H1 = H at hP hS ⊢
      have hP : va_P (dC, dI) vwCl [(mo, .inr (3, [.int (nI 0), .int (nI (2 ^ k)), .ref ma, .ref mb, .int (nI rs), .ref lo, .ref hi, .ref kp, .ref ot, .ref su]))] H := hP
      have hD : va_D A [(mo, .inr (3, [.int (nI 0), .int (nI (2 ^ k)), .ref ma, .ref mb, .int (nI rs), .ref lo, .ref hi, .ref kp, .ref ot, .ref su]))] := hD
      clear hPc hDc hKc hFc hP1 hD1 hk1 hz1 hvm ht
      subst hw
      refine lv_l2i (v := iI ((frW k (prN q)) ^ (ex32 e9 k) % ((prN q : Nat) : Int))) hx hb dX4_root_49 (lI_i ((frW k (prN q)) ^ (ex32 e9 k) % ((prN q : Nat) : Int))) ?_
      have hP9 : va_P (dC, dI) vwCl [(mo, .inr (3, [.int (nI 0), .int (nI (2 ^ k)), .ref ma, .ref mb, .int (nI rs), .ref lo, .ref hi, .ref kp, .ref ot, .ref su]))] H := hP.sub [0] rfl
      have hD9 : va_D A [(mo, .inr (3, [.int (nI 0), .int (nI (2 ^ k)), .ref ma, .ref mb, .int (nI rs), .ref lo, .ref hi, .ref kp, .ref ot, .ref su]))] := hD.sub [0] (by decide) rfl
      exact W.iret (v := iI ((frW k (prN q)) ^ (ex32 e9 k) % ((prN q : Nat) : Int))) hx hb hr (fun tq9 ht hW => ⟨⟨iI ((frW k (prN q)) ^ (ex32 e9 k) % ((prN q : Nat) : Int)), (), rfl, rfl, by rw [ht]; exact hP9, hD9⟩, hS.F ht⟩) hS.2.2 dX4_root_50
    · have c_2 : ¬ (0 ≤ 0) := fun zq9 => c_2 ((nI_leI (a := 0) (b := 0) (by omega) (by omega)).mpr zq9)
      omega
  · have c_1 : ¬ (0 = 0) := fun zq9 => c_1 ((nI_eq (a := 0) (b := 0) (by omega) (by omega)).mpr zq9)
    omega

abbrev q_X4_root_bad (dC : Nat → ClassId) (dI : Nat → Nat → Nat) (mo ma mb lo hi kp ot su k rs : Nat) (tv : Int32) (i v : Int32) (A : Nat → Prop) : Array Value → State → Outcome → State → Prop := va_Qi (fun (r : Int32) (u : Unit) => True) (fun u t => va_P (dC, dI) vwCl [(mo, .inr (3, [.int (nI 1), .int (nI (2 ^ k)), .ref ma, .ref mb, .int (nI rs), .ref lo, .ref hi, .ref kp, .ref ot, .ref su]))] t.heap ∧ va_D A [(mo, .inr (3, [.int (nI 1), .int (nI (2 ^ k)), .ref ma, .ref mb, .int (nI rs), .ref lo, .ref hi, .ref kp, .ref ot, .ref su]))]) A
set_option maxHeartbeats 4000000 in
set_option maxRecDepth 100000 in
theorem c_X4_root_bad (l : Launch) (dC : Nat → ClassId) (dI : Nat → Nat → Nat) (mo ma mb lo hi kp ot su k rs : Nat) (tv : Int32) (i v : Int32) (sz : Nat) (hbad : i < 0 ∨ nI 3 ≤ i) : Met l yX4_root wsX4_root ({ frames := 1, cells := 0, slots := 0, locals := 20 }) (va_Pc [.ref mo, .int i, .int v] (fun U => U.heap.size = sz ∧ va_P (dC, dI) vwCl [(mo, .inr (3, [.int tv, .int (nI (2 ^ k)), .ref ma, .ref mb, .int (nI rs), .ref lo, .ref hi, .ref kp, .ref ot, .ref su]))] U.heap ∧ va_K (dC, dI) vwCl [] U ∧ va_D (fun _ => True) [(mo, .inr (3, [.int tv, .int (nI (2 ^ k)), .ref ma, .ref mb, .int (nI rs), .ref lo, .ref hi, .ref kp, .ref ot, .ref su]))])) (q_X4_root_bad dC dI mo ma mb lo hi kp ot su k rs tv i v (va_A [(mo, .inr (3, [.int tv, .int (nI (2 ^ k)), .ref ma, .ref mb, .int (nI rs), .ref lo, .ref hi, .ref kp, .ref ot, .ref su]))] sz)) 0 0 (va_A [(mo, .inr (3, [.int tv, .int (nI (2 ^ k)), .ref ma, .ref mb, .int (nI rs), .ref lo, .ref hi, .ref kp, .ref ot, .ref su]))] sz) := by
  refine Met.ofW (cc := cX4_root) (maxL := 5) (ret := (some .int)) (by decide) rfl ?_
  intro p e s m args below meth c s₁ B hml hv
  obtain ⟨rfl, hsz, hP, hK, hD0⟩ := hv
  have hx := B.exec
  have hb := B.bytes
  have hr := B.returns
  have hts := atoms_spec (ws := wsX4_root) B.pre
  have hown : s.vm.findClass RX4 = some m.cls := findClass_of_methodNamed B.named
  have hlocks := B.notSynchronized
  subst hsz
  have hD := hD0.self (sz := s.heap.size)
  generalize hAe : va_A [(mo, .inr (3, [.int tv, .int (nI (2 ^ k)), .ref ma, .ref mb, .int (nI rs), .ref lo, .ref hi, .ref kp, .ref ot, .ref su]))] s.heap.size = A at hD ⊢
  have hA : ∀ q : Nat, s.heap.size ≤ q → A q := fun q h => by rw [← hAe]; exact Or.inr h
  have hS : va_S A s.heap s.heap [] := va_S.rf
  have hP : va_P (dC, dI) vwCl [(mo, .inr (3, [.int tv, .int (nI (2 ^ k)), .ref ma, .ref mb, .int (nI rs), .ref lo, .ref hi, .ref kp, .ref ot, .ref su]))] s.heap := hP
  have hl := lv_entry (([.ref mo, .int i, .int v] : List Value)) (n := 5) (Nat.le_of_ble_eq_true rfl)
  rw [lg_entry_eq]
  generalize (lg_sl (([.ref mo, .int i, .int v] : List Value)) ++ List.replicate (5 - (lg_sl (([.ref mo, .int i, .int v] : List Value))).length) Slot.unset).toArray = ls at hl ⊢
  have hl : lv_has ls 5 [(0, .ref mo), (1, .int i), (2, .int v)] := hl
  obtain ⟨H, hHe⟩ : ∃ H : Heap, H = s.heap := ⟨_, rfl⟩
  rw [← hHe] at hP
  have hS : va_S A s.heap H [] := by rw [hHe]; exact hS
  obtain ⟨locs, hlo⟩ : ∃ L : List Loc, L = [] := ⟨_, rfl⟩
  rw [← hlo] at hS ⊢
  rw [← hHe]
  refine lv_aload_n hx hb dX4_root_0 rfl (lv_at hl 0 rfl) ?_
  refine lv_iload_n hx hb dX4_root_1 rfl (lv_at hl 1 rfl) ?_
  have hPc := hP.sub (ws' := []) [] rfl
  have hDc := hD.sub (ws' := []) [] (by decide) rfl
  have hKc := hK.sub (tys' := []) [] rfl
  have hFc := va_free (wc := []) hD hS hA [] rfl
  refine va_calli (va_runS (As := [.int i]) (rest := [.ref mo]) ⟨hx, hb, hml, hown, hts⟩ (c_X4_noPrime_bad l dC dI i H.size hbad) (va_cwS 1 hts gX4_root_X4_noPrime rfl rfl rfl (by decide +kernel) ⟨Nat.le_of_ble_eq_true rfl, Nat.le_of_ble_eq_true rfl⟩) ⟨fun a U g mk q => by obtain ⟨q0, q1, qP, qK, qD⟩ := q; exact ⟨q0, q1, qP, va_K.moved (u := U) (U := U.calling g mk a) (Vm.Alike.refl U.vm) qK, qD⟩, fun U hU hW => ⟨rfl, by rw [hU], by rw [hU]; exact hPc, va_K.moved hW.alike hKc, hDc.weaken (fun _ _ _ _ => trivial)⟩⟩ rfl rfl hl.1 rfl (lv_room (Nat.le_of_ble_eq_true rfl)) dX4_root_2 ⟨Nat.le_of_ble_eq_true rfl, Nat.le_of_ble_eq_true rfl⟩) hS (fun q _ h => hFc q h) hFc (fun r9 u9 t9 H1 locs ht hvm hw hB hz1 hk1 hS => ?_)
  obtain ⟨hP1, hD1⟩ := hB
  rw [ht] at hP1
  try dsimp only at hw
  obtain ⟨hP, hD⟩ := va_join (wr := [(mo, .inr (3, [.int tv, .int (nI (2 ^ k)), .ref ma, .ref mb, .int (nI rs), .ref lo, .ref hi, .ref kp, .ref ot, .ref su]))]) (w1 := []) hP hD [] [0] rfl rfl (by decide) (by decide) hk1 hFc hP1 hD1
  generalize H1 = H at hP hS ⊢
  have hP : va_P (dC, dI) vwCl [(mo, .inr (3, [.int tv, .int (nI (2 ^ k)), .ref ma, .ref mb, .int (nI rs), .ref lo, .ref hi, .ref kp, .ref ot, .ref su]))] H := hP
  have hD : va_D A [(mo, .inr (3, [.int tv, .int (nI (2 ^ k)), .ref ma, .ref mb, .int (nI rs), .ref lo, .ref hi, .ref kp, .ref ot, .ref su]))] := hD
  clear hPc hDc hKc hFc hP1 hD1 hk1 hz1 hvm ht
  subst hw
  refine lv_if_eq (tgt := 12) hx hb dX4_root_5 (by decide) (fun c_1 => ?_) (fun c_1 => ?_)
  · have c_1 : 1 = 0 := (nI_eq (a := 1) (b := 0) (by omega) (by omega)).mp c_1
    omega
  · have c_1 : ¬ (1 = 0) := fun zq9 => c_1 ((nI_eq (a := 1) (b := 0) (by omega) (by omega)).mpr zq9)
    refine lv_iconst (v := nI 1) hx hb dX4_root_8 (by decide) ?_
    refine lv_goto (tgt := 13) hx hb dX4_root_9 (by decide) ?_
    refine va_put (D := (dC, dI)) (ci := 3) (v := .int (nI 1)) (ty := .int) (C := RX4) (T := TX4) (N := 10) hx hb hts (by decide +kernel) tyX4 tyX4_ok nmX4 hown hK hP hD hS 0 rfl rfl 0 (by decide) (hts (.fieldLink RX4 36 "ThreePrimesModel" "thrown" "I") (by decide +kernel)) (fun _ h9 => h9) rfl (by decide +kernel) rfl rfl (Nat.le_of_ble_eq_true rfl) dX4_root_13 (fun H locs hP hD hS => ?_)
    have hP : va_P (dC, dI) vwCl [(mo, .inr (3, [.int (nI 1), .int (nI (2 ^ k)), .ref ma, .ref mb, .int (nI rs), .ref lo, .ref hi, .ref kp, .ref ot, .ref su]))] H := hP
    have hD : va_D A [(mo, .inr (3, [.int (nI 1), .int (nI (2 ^ k)), .ref ma, .ref mb, .int (nI rs), .ref lo, .ref hi, .ref kp, .ref ot, .ref su]))] := hD
    refine lv_aload_n hx hb dX4_root_16 rfl (lv_at hl 0 rfl) ?_
    refine va_get (D := (dC, dI)) (ci := 3) (v := .int (nI 1)) (C := RX4) (T := TX4) (N := 10) hx hb hts (by decide +kernel) hown hK hP 0 rfl rfl 0 (by decide) (hts (.fieldLink RX4 36 "ThreePrimesModel" "thrown" "I") (by decide +kernel)) (fun _ h9 => h9) rfl dX4_root_17 ?_
    refine lv_if_le (tgt := 25) hx hb dX4_root_20 (by decide) (fun c_2 => ?_) (fun c_2 => ?_)
    · have c_2 : 1 ≤ 0 := (nI_leI (a := 1) (b := 0) (by omega) (by omega)).mp c_2
      omega
    · have c_2 : ¬ (1 ≤ 0) := fun zq9 => c_2 ((nI_leI (a := 1) (b := 0) (by omega) (by omega)).mpr zq9)
      refine lv_iconst (v := nI 0) hx hb dX4_root_23 (by decide) ?_
      have hP9 : va_P (dC, dI) vwCl [(mo, .inr (3, [.int (nI 1), .int (nI (2 ^ k)), .ref ma, .ref mb, .int (nI rs), .ref lo, .ref hi, .ref kp, .ref ot, .ref su]))] H := hP.sub [0] rfl
      have hD9 : va_D A [(mo, .inr (3, [.int (nI 1), .int (nI (2 ^ k)), .ref ma, .ref mb, .int (nI rs), .ref lo, .ref hi, .ref kp, .ref ot, .ref su]))] := hD.sub [0] (by decide) rfl
      exact W.iret (v := nI 0) hx hb hr (fun tq9 ht hW => ⟨⟨nI 0, (), rfl, trivial, by rw [ht]; exact hP9, hD9⟩, hS.F ht⟩) hS.2.2 dX4_root_24
