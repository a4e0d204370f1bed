theorem zz_shr {n k : Nat} (hn : n < 2 ^ 31) (hk : k ≤ 9) : nI n >>> (nI k &&& 31) = nI (n / 2 ^ k) := by
  refine pk_shrN hn (nI k &&& 31) k ?_
  have : ∀ j : Nat, j < 10 → ((nI j &&& 31).toBitVec.smod 32).toNat = j := by decide +kernel
  exact this k (by omega)
abbrev q_X1_remainder (dC : Nat → ClassId) (dI : Nat → Nat → Nat) (x : Int) (P : Nat) (A : Nat → Prop) : Array Value → State → Outcome → State → Prop := va_Ql (fun (r : Int64) (u : Unit) => r = lI (x % (P : Int))) (fun u t => va_P (dC, dI) vwCl [] t.heap ∧ va_D A []) A
set_option maxHeartbeats 4000000 in
set_option maxRecDepth 100000 in
theorem c_X1_remainder (l : Launch) (dC : Nat → ClassId) (dI : Nat → Nat → Nat) (x : Int) (P : Nat) (sz : Nat) (zx1 : -2 ^ 63 ≤ x) (zx2 : x < 2 ^ 63) (hp0 : (0 : Int) < (P : Int)) (hp1 : P ≤ 2 ^ 30) : Met l yX1_remainder wsX1_remainder ({ frames := 0, cells := 0, slots := 0, locals := 0 }) (va_Pc [.long (lI x), .int (nI P)] (fun U => U.heap.size = sz ∧ va_P (dC, dI) vwCl [] U.heap ∧ va_K (dC, dI) vwCl [] U ∧ va_D (fun _ => True) [])) (q_X1_remainder dC dI x P (va_A [] sz)) 0 0 (va_A [] sz) := by
  refine Met.ofW (cc := cX1_remainder) (maxL := 5) (ret := (some .long)) (by decide) rfl ?_
  intro p e s m args below meth c s₁ B hml hv
  obtain ⟨rfl, hsz, hP, hK, hD0⟩ := hv
  have hx := B.exec
  have hb := B.bytes
  have hr := B.returns
  have hts := atoms_spec (ws := wsX1_remainder) B.pre
  have hown : s.vm.findClass RX1 = some m.cls := findClass_of_methodNamed B.named
  have hlocks := B.notSynchronized
  subst hsz
  have hD := hD0.self (sz := s.heap.size)
  generalize hAe : va_A [] s.heap.size = A at hD ⊢
  have hA : ∀ q : Nat, s.heap.size ≤ q → A q := fun q h => by rw [← hAe]; exact Or.inr h
  have hS : va_S A s.heap s.heap [] := va_S.rf
  have hP : va_P (dC, dI) vwCl [] s.heap := hP
  have hl := lv_entry (([.long (lI x), .int (nI P)] : List Value)) (n := 5) (Nat.le_of_ble_eq_true rfl)
  rw [lg_entry_eq]
  generalize (lg_sl (([.long (lI x), .int (nI P)] : List Value)) ++ List.replicate (5 - (lg_sl (([.long (lI x), .int (nI P)] : List Value))).length) Slot.unset).toArray = ls at hl ⊢
  have hl : lv_has ls 5 [(0, .long (lI x)), (2, .int (nI P))] := hl
  obtain ⟨H, hHe⟩ : ∃ H : Heap, H = s.heap := ⟨_, rfl⟩
  rw [← hHe] at hP
  have hS : va_S A s.heap H [] := by rw [hHe]; exact hS
  obtain ⟨locs, hlo⟩ : ∃ L : List Loc, L = [] := ⟨_, rfl⟩
  rw [← hlo] at hS ⊢
  rw [← hHe]
  refine lv_lload_n hx hb dX1_remainder_0 rfl (lv_at hl 0 rfl) ?_
  refine lv_iload_n hx hb dX1_remainder_1 rfl (lv_at hl 1 rfl) ?_
  refine lv_i2l (v := lI ((P : Nat) : Int)) hx hb dX1_remainder_2 (nI_lI (by omega)) ?_
  refine lv_lrem hx hb dX1_remainder_3 (fun zq9 => absurd ((lI_eq (b := 0) (by omega) (by omega) (by omega) (by omega)).mp zq9) (by omega)) ?_
  refine W.eq (congrArg (fun z => F0 m _ ls (.long z :: _)) (show lI x - lI x / lI ((P : Nat) : Int) * lI ((P : Nat) : Int) = lI ((x).tmod ((P : Nat) : Int)) from lI_rem (by omega) (by omega) (by omega) (by omega))) ?_
  have ht1 := Int.tmod_lt_of_pos x hp0
  have ht2 : -(P : Int) < x.tmod (P : Int) := by have h := Int.emod_nonneg x (show (P : Int) ≠ 0 by omega); rw [Int.tmod_eq_emod]; split <;> omega
  refine lv_lstore_n (lv' := [(3, .long (lI ((x).tmod ((P : Nat) : Int)))), (0, .long (lI x)), (2, .int (nI P))]) hx hb dX1_remainder_4 rfl hl (by decide) rfl (fun ls hl => ?_)
  refine lv_lload_n hx hb dX1_remainder_5 rfl (lv_at hl 0 rfl) ?_
  refine lv_lconst (v := lI 0) hx hb dX1_remainder_6 (by decide) ?_
  refine W.lcmp hx hb dX1_remainder_7 ?_
  refine lv_if_ge (tgt := 18) hx hb dX1_remainder_8 (by decide) (fun c_1 => ?_) (fun c_1 => ?_)
  · have c_1 : 0 ≤ ((x).tmod ((P : Nat) : Int)) := ((lg_cmp_ge _ _).trans (lI_le (a := 0) (b := (x).tmod ((P : Nat) : Int)) (by omega) (by omega) (by omega) (by omega))).mp c_1
    refine lv_lload_n hx hb dX1_remainder_18 rfl (lv_at hl 0 rfl) ?_
    have hP9 : va_P (dC, dI) vwCl [] H := hP.sub [] rfl
    have hD9 : va_D A [] := hD.sub [] (by decide) rfl
    exact W.lret (v := lI ((x).tmod ((P : Nat) : Int))) hx hb hr (fun t ht hW => ⟨⟨lI ((x).tmod ((P : Nat) : Int)), (), rfl, by rw [← rem_fix (x := x) hp0, if_neg (by omega)], by rw [ht]; exact hP9, hD9⟩, hS.F ht⟩) hS.2.2 dX1_remainder_19
  · have c_1 : ¬ (0 ≤ ((x).tmod ((P : Nat) : Int))) := fun zq9 => c_1 (((lg_cmp_ge _ _).trans (lI_le (a := 0) (b := (x).tmod ((P : Nat) : Int)) (by omega) (by omega) (by omega) (by omega))).mpr zq9)
    refine lv_lload_n hx hb dX1_remainder_11 rfl (lv_at hl 0 rfl) ?_
    refine lv_iload_n hx hb dX1_remainder_12 rfl (lv_at hl 2 rfl) ?_
    refine lv_i2l (v := lI ((P : Nat) : Int)) hx hb dX1_remainder_13 (nI_lI (by omega)) ?_
    refine lv_ladd hx hb dX1_remainder_14 ?_
    refine W.eq (congrArg (fun z => F0 m _ ls (.long z :: _)) (show lI ((x).tmod ((P : Nat) : Int)) + lI ((P : Nat) : Int) = lI (((x).tmod ((P : Nat) : Int)) + ((P : Nat) : Int)) from lI_add ((x).tmod ((P : Nat) : Int)) ((P : Nat) : Int))) ?_
    refine lv_goto (tgt := 19) hx hb dX1_remainder_15 (by decide) ?_
    have hP9 : va_P (dC, dI) vwCl [] H := hP.sub [] rfl
    have hD9 : va_D A [] := hD.sub [] (by decide) rfl
    exact W.lret (v := lI (((x).tmod ((P : Nat) : Int)) + ((P : Nat) : Int))) hx hb hr (fun t ht hW => ⟨⟨lI (((x).tmod ((P : Nat) : Int)) + ((P : Nat) : Int)), (), rfl, by rw [← rem_fix (x := x) hp0, if_pos (by omega)], by rw [ht]; exact hP9, hD9⟩, hS.F ht⟩) hS.2.2 dX1_remainder_19

abbrev q_X1_raise (dC : Nat → ClassId) (dI : Nat → Nat → Nat) (b : Int) (x P : Nat) (A : Nat → Prop) : Array Value → State → Outcome → State → Prop := va_Ql (fun (r : Int64) (u : Unit) => r = lI (b ^ x % (P : Int))) (fun u t => va_P (dC, dI) vwCl [] t.heap ∧ va_D A []) A
set_option maxHeartbeats 4000000 in
set_option maxRecDepth 100000 in
theorem c_X1_raise (l : Launch) (dC : Nat → ClassId) (dI : Nat → Nat → Nat) (b : Int) (x P : Nat) (sz : Nat) (zb0 : 0 ≤ b) (zb1 : b < P) (zxx : x < 2 ^ 31) (hp1 : 1 < P) (hp2 : P ≤ 2 ^ 30) : Met l yX1_raise wsX1_raise ({ frames := 0, cells := 0, slots := 0, locals := 0 }) (va_Pc [.long (lI b), .int (nI x), .int (nI P)] (fun U => U.heap.size = sz ∧ va_P (dC, dI) vwCl [] U.heap ∧ va_K (dC, dI) vwCl [] U ∧ va_D (fun _ => True) [])) (q_X1_raise dC dI b x P (va_A [] sz)) 0 0 (va_A [] sz) := by
  refine Met.ofW (cc := cX1_raise) (maxL := 9) (ret := (some .long)) (by decide) rfl ?_
  intro p e s m args below meth c s₁ B hml hv
  obtain ⟨rfl, hsz, hP, hK, hD0⟩ := hv
  have hx := B.exec
  have hb := B.bytes
  have hr := B.returns
  have hts := atoms_spec (ws := wsX1_raise) B.pre
  have hown : s.vm.findClass RX1 = some m.cls := findClass_of_methodNamed B.named
  have hlocks := B.notSynchronized
  subst hsz
  have hD := hD0.self (sz := s.heap.size)
  generalize hAe : va_A [] s.heap.size = A at hD ⊢
  have hA : ∀ q : Nat, s.heap.size ≤ q → A q := fun q h => by rw [← hAe]; exact Or.inr h
  have hS : va_S A s.heap s.heap [] := va_S.rf
  have hP : va_P (dC, dI) vwCl [] s.heap := hP
  have hl := lv_entry (([.long (lI b), .int (nI x), .int (nI P)] : List Value)) (n := 9) (Nat.le_of_ble_eq_true rfl)
  rw [lg_entry_eq]
  generalize (lg_sl (([.long (lI b), .int (nI x), .int (nI P)] : List Value)) ++ List.replicate (9 - (lg_sl (([.long (lI b), .int (nI x), .int (nI P)] : List Value))).length) Slot.unset).toArray = ls at hl ⊢
  have hl : lv_has ls 9 [(0, .long (lI b)), (2, .int (nI x)), (3, .int (nI P))] := hl
  obtain ⟨H, hHe⟩ : ∃ H : Heap, H = s.heap := ⟨_, rfl⟩
  rw [← hHe] at hP
  have hS : va_S A s.heap H [] := by rw [hHe]; exact hS
  obtain ⟨locs, hlo⟩ : ∃ L : List Loc, L = [] := ⟨_, rfl⟩
  rw [← hlo] at hS ⊢
  rw [← hHe]
  refine lv_lconst (v := lI 1) hx hb dX1_raise_0 (by decide) ?_
  refine lv_lstore (lv' := [(4, .long (lI 1)), (0, .long (lI b)), (2, .int (nI x)), (3, .int (nI P))]) hx hb dX1_raise_1 hl (by decide) rfl (fun ls hl => ?_)
  refine lv_lload_n hx hb dX1_raise_3 rfl (lv_at hl 1 rfl) ?_
  refine lv_lstore (lv' := [(6, .long (lI b)), (4, .long (lI 1)), (0, .long (lI b)), (2, .int (nI x)), (3, .int (nI P))]) hx hb dX1_raise_4 hl (by decide) rfl (fun ls hl => ?_)
  refine lv_iload_n hx hb dX1_raise_6 rfl (lv_at hl 3 rfl) ?_
  refine lv_istore (lv' := [(8, .int (nI x)), (6, .long (lI b)), (4, .long (lI 1)), (0, .long (lI b)), (2, .int (nI x)), (3, .int (nI P))]) hx hb dX1_raise_7 hl (by decide) rfl (fun ls hl => ?_)
  have key_9 : ∀ (fuel : Nat) (r : Int) (q : Int) (k : Nat), (0 ≤ r) → (r < P) → (0 ≤ q) → (q < P) → (k < 2 ^ 31) → (r * q ^ k % (P : Int) = b ^ x % (P : Int)) → (k < fuel) → ∀ (H : Heap) (locs : List Loc) (ls : Array Slot), va_P (dC, dI) vwCl [] H → va_D A [] → va_S A s.heap H locs → lv_has ls 9 [(8, .int (nI k)), (6, .long (lI q)), (4, .long (lI r)), (3, .int (nI P))] → W p l e (headSpec wsX1_raise { frames := 0, cells := 0, slots := 0, locals := 0 }).room s m ([.long (lI b), .int (nI x), .int (nI P)] : List Value).toArray below meth c H locs 0 0 (MQ below (q_X1_raise dC dI b x P  A) ([.long (lI b), .int (nI x), .int (nI P)] : List Value).toArray s 0 0 A) (F0 m 9 ls []) := by
    intro fuel
    induction fuel with
    | zero => intro r q k; intros; omega
    | succ fuel ih_9 =>
      intro r q k hr0 hr1 hq0 hq1 hk hinv hfu H locs ls hP hD hS hl
      have hqq := mul_b30 hq0 hq1 hq0 hq1 (by omega)
      have hrq := mul_b30 hr0 hr1 hq0 hq1 (by omega)
      have hq2 := Int.emod_nonneg (q * q) (show (P : Int) ≠ 0 by omega)
      have hq3 := Int.emod_lt_of_pos (q * q) (show (0 : Int) < P by omega)
      have hr2 := Int.emod_nonneg (r * q) (show (P : Int) ≠ 0 by omega)
      have hr3 := Int.emod_lt_of_pos (r * q) (show (0 : Int) < P by omega)
      have hst := raise_step r q P k
      refine lv_iload hx hb dX1_raise_9 (lv_at hl 0 rfl) ?_
      refine lv_if_le (tgt := 51) hx hb dX1_raise_11 (by decide) (fun c_1 => ?_) (fun c_1 => ?_)
      · have c_1 : k ≤ 0 := (nI_leI (a := k) (b := 0) (by omega) (by omega)).mp c_1
        refine lv_lload hx hb dX1_raise_51 (lv_at hl 2 rfl) ?_
        have hP9 : va_P (dC, dI) vwCl [] H := hP.sub [] rfl
        have hD9 : va_D A [] := hD.sub [] (by decide) rfl
        exact W.lret (v := lI r) hx hb hr (fun t ht hW => ⟨⟨lI r, (), rfl, by congr 1; rw [← hinv, show k = 0 by omega, Int.pow_zero, Int.mul_one, Int.emod_eq_of_lt hr0 hr1], by rw [ht]; exact hP9, hD9⟩, hS.F ht⟩) hS.2.2 dX1_raise_53
      · have c_1 : ¬ (k ≤ 0) := fun zq9 => c_1 ((nI_leI (a := k) (b := 0) (by omega) (by omega)).mpr zq9)
        refine lv_iload hx hb dX1_raise_14 (lv_at hl 0 rfl) ?_
        refine lv_iconst (v := nI 2) hx hb dX1_raise_16 (by decide) ?_
        refine lv_irem hx hb dX1_raise_17 (nI_ne0 (by omega) (by omega)) ?_
        refine W.eq (congrArg (fun z => F0 m _ ls (.int z :: _)) (show nI k - nI k / nI 2 * nI 2 = nI (k % 2) from pk_rem (by omega) (by omega) (by omega))) ?_
        refine lv_iconst (v := nI 1) hx hb dX1_raise_18 (by decide) ?_
        refine lv_icmp_ne (tgt := 32) hx hb dX1_raise_19 (by decide) (fun c_2 => ?_) (fun c_2 => ?_)
        · have c_2 : ¬ (k % 2 = 1) := fun zq9 => c_2 ((nI_eq (a := k % 2) (b := 1) (by omega) (by omega)).mpr zq9)
          refine lv_lload hx hb dX1_raise_32 (lv_at hl 1 rfl) ?_
          refine lv_lload hx hb dX1_raise_34 (lv_at hl 1 rfl) ?_
          refine lv_lmul hx hb dX1_raise_36 ?_
          refine W.eq (congrArg (fun z => F0 m _ ls (.long z :: _)) (show lI q * lI q = lI (q * q) from lI_mul q q)) ?_
          refine lv_iload_n hx hb dX1_raise_37 rfl (lv_at hl 3 rfl) ?_
          refine lv_i2l (v := lI ((P : Nat) : Int)) hx hb dX1_raise_38 (nI_lI (by omega)) ?_
          refine lv_lrem hx hb dX1_raise_39 (fun zq9 => absurd ((lI_eq (b := 0) (by omega) (by omega) (by omega) (by omega)).mp zq9) (by omega)) ?_
          refine W.eq (congrArg (fun z => F0 m _ ls (.long z :: _)) (show lI (q * q) - lI (q * q) / lI ((P : Nat) : Int) * lI ((P : Nat) : Int) = lI ((q * q) % ((P : Nat) : Int)) from lI_rem0 (by omega) (by omega) (by omega) (by omega))) ?_
          refine lv_lstore (lv' := [(6, .long (lI ((q * q) % ((P : Nat) : Int)))), (8, .int (nI k)), (4, .long (lI r)), (3, .int (nI P))]) hx hb dX1_raise_40 hl (by decide) rfl (fun ls hl => ?_)
          refine lv_iload hx hb dX1_raise_42 (lv_at hl 1 rfl) ?_
          refine lv_iconst (v := nI 2) hx hb dX1_raise_44 (by decide) ?_
          refine lv_idiv hx hb dX1_raise_45 (nI_ne0 (by omega) (by omega)) ?_
          refine W.eq (congrArg (fun z => F0 m _ ls (.int z :: _)) (show nI k / nI 2 = nI (k / 2) from pk_div (by omega) (by omega) (by omega))) ?_
          refine lv_istore (lv' := [(8, .int (nI (k / 2))), (6, .long (lI ((q * q) % ((P : Nat) : Int)))), (4, .long (lI r)), (3, .int (nI P))]) hx hb dX1_raise_46 hl (by decide) rfl (fun ls hl => ?_)
          refine lv_goto (tgt := 9) hx hb dX1_raise_48 (by decide) ?_
          exact ih_9  r (q * q % (P : Int)) (k / 2) (by omega) (by omega) (by omega) (by omega) (by omega) (by rw [← hinv, ← hst, if_neg (by omega)]) (by omega) _ _ _ (hP.sub [] rfl) (hD.sub [] (by decide) rfl) hS (lv_sub hl [0, 1, 2, 3] rfl)
        · have c_2 : k % 2 = 1 := (nI_eq (a := k % 2) (b := 1) (by omega) (by omega)).mp c_2
          refine lv_lload hx hb dX1_raise_22 (lv_at hl 2 rfl) ?_
          refine lv_lload hx hb dX1_raise_24 (lv_at hl 1 rfl) ?_
          refine lv_lmul hx hb dX1_raise_26 ?_
          refine W.eq (congrArg (fun z => F0 m _ ls (.long z :: _)) (show lI r * lI q = lI (r * q) from lI_mul r q)) ?_
          refine lv_iload_n hx hb dX1_raise_27 rfl (lv_at hl 3 rfl) ?_
          refine lv_i2l (v := lI ((P : Nat) : Int)) hx hb dX1_raise_28 (nI_lI (by omega)) ?_
          refine lv_lrem hx hb dX1_raise_29 (fun zq9 => absurd ((lI_eq (b := 0) (by omega) (by omega) (by omega) (by omega)).mp zq9) (by omega)) ?_
          refine W.eq (congrArg (fun z => F0 m _ ls (.long z :: _)) (show lI (r * q) - lI (r * q) / lI ((P : Nat) : Int) * lI ((P : Nat) : Int) = lI ((r * q) % ((P : Nat) : Int)) from lI_rem0 (by omega) (by omega) (by omega) (by omega))) ?_
          refine lv_lstore (lv' := [(4, .long (lI ((r * q) % ((P : Nat) : Int)))), (8, .int (nI k)), (6, .long (lI q)), (3, .int (nI P))]) hx hb dX1_raise_30 hl (by decide) rfl (fun ls hl => ?_)
          refine lv_lload hx hb dX1_raise_32 (lv_at hl 2 rfl) ?_
          refine lv_lload hx hb dX1_raise_34 (lv_at hl 2 rfl) ?_
          refine lv_lmul hx hb dX1_raise_36 ?_
          refine W.eq (congrArg (fun z => F0 m _ ls (.long z :: _)) (show lI q * lI q = lI (q * q) from lI_mul q q)) ?_
          refine lv_iload_n hx hb dX1_raise_37 rfl (lv_at hl 3 rfl) ?_
          refine lv_i2l (v := lI ((P : Nat) : Int)) hx hb dX1_raise_38 (nI_lI (by omega)) ?_
          refine lv_lrem hx hb dX1_raise_39 (fun zq9 => absurd ((lI_eq (b := 0) (by omega) (by omega) (by omega) (by omega)).mp zq9) (by omega)) ?_
          refine W.eq (congrArg (fun z => F0 m _ ls (.long z :: _)) (show lI (q * q) - lI (q * q) / lI ((P : Nat) : Int) * lI ((P : Nat) : Int) = lI ((q * q) % ((P : Nat) : Int)) from lI_rem0 (by omega) (by omega) (by omega) (by omega))) ?_
          refine lv_lstore (lv' := [(6, .long (lI ((q * q) % ((P : Nat) : Int)))), (4, .long (lI ((r * q) % ((P : Nat) : Int)))), (8, .int (nI k)), (3, .int (nI P))]) hx hb dX1_raise_40 hl (by decide) rfl (fun ls hl => ?_)
          refine lv_iload hx hb dX1_raise_42 (lv_at hl 2 rfl) ?_
          refine lv_iconst (v := nI 2) hx hb dX1_raise_44 (by decide) ?_
          refine lv_idiv hx hb dX1_raise_45 (nI_ne0 (by omega) (by omega)) ?_
          refine W.eq (congrArg (fun z => F0 m _ ls (.int z :: _)) (show nI k / nI 2 = nI (k / 2) from pk_div (by omega) (by omega) (by omega))) ?_
          refine lv_istore (lv' := [(8, .int (nI (k / 2))), (6, .long (lI ((q * q) % ((P : Nat) : Int)))), (4, .long (lI ((r * q) % ((P : Nat) : Int)))), (3, .int (nI P))]) hx hb dX1_raise_46 hl (by decide) rfl (fun ls hl => ?_)
          refine lv_goto (tgt := 9) hx hb dX1_raise_48 (by decide) ?_
          exact ih_9  ((r * q) % ((P : Nat) : Int)) (q * q % (P : Int)) (k / 2) (by omega) (by omega) (by omega) (by omega) (by omega) (by rw [← hinv, ← hst, if_pos (by omega)]) (by omega) _ _ _ (hP.sub [] rfl) (hD.sub [] (by decide) rfl) hS (lv_sub hl [0, 1, 2, 3] rfl)
  exact key_9 (x + 1) 1 b x (by omega) (by omega) (zb0) (zb1) (zxx) (by rw [Int.one_mul]) (by omega) _ _ _ (hP.sub [] rfl) (hD.sub [] (by decide) rfl) hS (lv_sub hl [0, 1, 2, 5] rfl)

abbrev q_X1_inverse (dC : Nat → ClassId) (dI : Nat → Nat → Nat) (b : Int) (P : Nat) (A : Nat → Prop) : Array Value → State → Outcome → State → Prop := va_Ql (fun (r : Int64) (u : Unit) => r = lI (b ^ (P - 2) % (P : Int))) (fun u t => va_P (dC, dI) vwCl [] t.heap ∧ va_D A []) A
set_option maxHeartbeats 4000000 in
set_option maxRecDepth 100000 in
theorem c_X1_inverse (l : Launch) (dC : Nat → ClassId) (dI : Nat → Nat → Nat) (b : Int) (P : Nat) (sz : Nat) (zb0 : 0 ≤ b) (zb1 : b < P) (hp1 : 2 < P) (hp2 : P ≤ 2 ^ 30) : Met l yX1_inverse wsX1_inverse ({ frames := 1, cells := 0, slots := 0, locals := 28 }) (va_Pc [.long (lI b), .int (nI P)] (fun U => U.heap.size = sz ∧ va_P (dC, dI) vwCl [] U.heap ∧ va_K (dC, dI) vwCl [] U ∧ va_D (fun _ => True) [])) (q_X1_inverse dC dI b P (va_A [] sz)) 0 0 (va_A [] sz) := by
  refine Met.ofW (cc := cX1_inverse) (maxL := 3) (ret := (some .long)) (by decide) rfl ?_
  intro p e s m args below meth c s₁ B hml hv
  obtain ⟨rfl, hsz, hP, hK, hD0⟩ := hv
  have hx := B.exec
  have hb := B.bytes
  have hr := B.returns
  have hts := atoms_spec (ws := wsX1_inverse) B.pre
  have hown : s.vm.findClass RX1 = some m.cls := findClass_of_methodNamed B.named
  have hlocks := B.notSynchronized
  subst hsz
  have hD := hD0.self (sz := s.heap.size)
  generalize hAe : va_A [] s.heap.size = A at hD ⊢
  have hA : ∀ q : Nat, s.heap.size ≤ q → A q := fun q h => by rw [← hAe]; exact Or.inr h
  have hS : va_S A s.heap s.heap [] := va_S.rf
  have hP : va_P (dC, dI) vwCl [] s.heap := hP
  have hl := lv_entry (([.long (lI b), .int (nI P)] : List Value)) (n := 3) (Nat.le_of_ble_eq_true rfl)
  rw [lg_entry_eq]
  generalize (lg_sl (([.long (lI b), .int (nI P)] : List Value)) ++ List.replicate (3 - (lg_sl (([.long (lI b), .int (nI P)] : List Value))).length) Slot.unset).toArray = ls at hl ⊢
  have hl : lv_has ls 3 [(0, .long (lI b)), (2, .int (nI P))] := hl
  obtain ⟨H, hHe⟩ : ∃ H : Heap, H = s.heap := ⟨_, rfl⟩
  rw [← hHe] at hP
  have hS : va_S A s.heap H [] := by rw [hHe]; exact hS
  obtain ⟨locs, hlo⟩ : ∃ L : List Loc, L = [] := ⟨_, rfl⟩
  rw [← hlo] at hS ⊢
  rw [← hHe]
  refine lv_lload_n hx hb dX1_inverse_0 rfl (lv_at hl 0 rfl) ?_
  refine lv_iload_n hx hb dX1_inverse_1 rfl (lv_at hl 1 rfl) ?_
  refine lv_iconst (v := nI 2) hx hb dX1_inverse_2 (by decide) ?_
  refine lv_isub hx hb dX1_inverse_3 ?_
  refine W.eq (congrArg (fun z => F0 m _ ls (.int z :: _)) (show (nI P) - (nI 2) = nI (P - 2) from pk_sub (by omega))) ?_
  refine lv_iload_n hx hb dX1_inverse_4 rfl (lv_at hl 1 rfl) ?_
  have hPc := hP.sub (ws' := []) [] rfl
  have hDc := hD.sub (ws' := []) [] (by decide) rfl
  have hKc := hK.sub (tys' := []) [] rfl
  have hFc := va_free (wc := []) hD hS hA [] rfl
  refine va_calll (va_runS (As := [.long (lI b), .int (nI (P - 2)), .int (nI P)]) (rest := []) ⟨hx, hb, hml, hown, hts⟩ (c_X1_raise l dC dI b (P - 2) P H.size (by omega) (by omega) (by omega) (by omega) (by omega)) (va_cwS 3 hts gX1_inverse_X1_raise rfl rfl rfl (by decide +kernel) ⟨Nat.le_of_ble_eq_true rfl, Nat.le_of_ble_eq_true rfl⟩) ⟨fun a U g mk q => by obtain ⟨q0, q1, qP, qK, qD⟩ := q; exact ⟨q0, q1, qP, va_K.moved (u := U) (U := U.calling g mk a) (Vm.Alike.refl U.vm) qK, qD⟩, fun U hU hW => ⟨rfl, by rw [hU], by rw [hU]; exact hPc, va_K.moved hW.alike hKc, hDc.weaken (fun _ _ _ _ => trivial)⟩⟩ rfl rfl hl.1 rfl (lv_room (Nat.le_of_ble_eq_true rfl)) dX1_inverse_5 ⟨Nat.le_of_ble_eq_true rfl, Nat.le_of_ble_eq_true rfl⟩) hS (fun q _ h => hFc q h) hFc (fun r9 u9 t9 H1 locs ht hvm hw hB hz1 hk1 hS => ?_)
  obtain ⟨hP1, hD1⟩ := hB
  rw [ht] at hP1
  try dsimp only at hw
  obtain ⟨hP, hD⟩ := va_join (wr := []) (w1 := []) hP hD [] [] rfl rfl (by decide) (by decide) hk1 hFc hP1 hD1
  generalize H1 = H at hP hS ⊢
  have hP : va_P (dC, dI) vwCl [] H := hP
  have hD : va_D A [] := hD
  clear hPc hDc hKc hFc hP1 hD1 hk1 hz1 hvm ht
  subst hw
  have hP9 : va_P (dC, dI) vwCl [] H := hP.sub [] rfl
  have hD9 : va_D A [] := hD.sub [] (by decide) rfl
  exact W.lret (v := lI (b ^ (P - 2) % ((P : Nat) : Int))) hx hb hr (fun t ht hW => ⟨⟨lI (b ^ (P - 2) % ((P : Nat) : Int)), (), rfl, rfl, by rw [ht]; exact hP9, hD9⟩, hS.F ht⟩) hS.2.2 dX1_inverse_8

abbrev q_X1_rootOfOne (dC : Nat → ClassId) (dI : Nat → Nat → Nat) (k P : Nat) (A : Nat → Prop) : Array Value → State → Outcome → State → Prop := va_Ql (fun (r : Int64) (u : Unit) => r = lI (3 ^ ((P - 1) / 2 ^ k) % (P : Int))) (fun u t => va_P (dC, dI) vwCl [] t.heap ∧ va_D A []) A
set_option maxHeartbeats 4000000 in
set_option maxRecDepth 100000 in
theorem c_X1_rootOfOne (l : Launch) (dC : Nat → ClassId) (dI : Nat → Nat → Nat) (k P : Nat) (sz : Nat) (hk : k ≤ 9) (hp1 : 3 < P) (hp2 : P ≤ 2 ^ 30) : Met l yX1_rootOfOne wsX1_rootOfOne ({ frames := 1, cells := 0, slots := 0, locals := 28 }) (va_Pc [.int (nI k), .int (nI P)] (fun U => U.heap.size = sz ∧ va_P (dC, dI) vwCl [] U.heap ∧ va_K (dC, dI) vwCl [] U ∧ va_D (fun _ => True) [])) (q_X1_rootOfOne dC dI k P (va_A [] sz)) 0 0 (va_A [] sz) := by
  refine Met.ofW (cc := cX1_rootOfOne) (maxL := 2) (ret := (some .long)) (by decide) rfl ?_
  intro p e s m args below meth c s₁ B hml hv
  obtain ⟨rfl, hsz, hP, hK, hD0⟩ := hv
  have hx := B.exec
  have hb := B.bytes
  have hr := B.returns
  have hts := atoms_spec (ws := wsX1_rootOfOne) B.pre
  have hown : s.vm.findClass RX1 = some m.cls := findClass_of_methodNamed B.named
  have hlocks := B.notSynchronized
  subst hsz
  have hD := hD0.self (sz := s.heap.size)
  generalize hAe : va_A [] s.heap.size = A at hD ⊢
  have hA : ∀ q : Nat, s.heap.size ≤ q → A q := fun q h => by rw [← hAe]; exact Or.inr h
  have hS : va_S A s.heap s.heap [] := va_S.rf
  have hP : va_P (dC, dI) vwCl [] s.heap := hP
  have hl := lv_entry (([.int (nI k), .int (nI P)] : List Value)) (n := 2) (Nat.le_of_ble_eq_true rfl)
  rw [lg_entry_eq]
  generalize (lg_sl (([.int (nI k), .int (nI P)] : List Value)) ++ List.replicate (2 - (lg_sl (([.int (nI k), .int (nI P)] : List Value))).length) Slot.unset).toArray = ls at hl ⊢
  have hl : lv_has ls 2 [(0, .int (nI k)), (1, .int (nI P))] := hl
  obtain ⟨H, hHe⟩ : ∃ H : Heap, H = s.heap := ⟨_, rfl⟩
  rw [← hHe] at hP
  have hS : va_S A s.heap H [] := by rw [hHe]; exact hS
  obtain ⟨locs, hlo⟩ : ∃ L : List Loc, L = [] := ⟨_, rfl⟩
  rw [← hlo] at hS ⊢
  rw [← hHe]
  refine lv_ldc2 (own := RX1) (v := lI (3)) hx hb hown (hts (.constantLong RX1 13 (3)) (by decide +kernel)) dX1_rootOfOne_0 ?_
  refine lv_iload_n hx hb dX1_rootOfOne_3 rfl (lv_at hl 1 rfl) ?_
  refine lv_iconst (v := nI 1) hx hb dX1_rootOfOne_4 (by decide) ?_
  refine lv_isub hx hb dX1_rootOfOne_5 ?_
  refine W.eq (congrArg (fun z => F0 m _ ls (.int z :: _)) (show (nI P) - (nI 1) = nI (P - 1) from pk_sub (by omega))) ?_
  refine lv_iload_n hx hb dX1_rootOfOne_6 rfl (lv_at hl 0 rfl) ?_
  refine lv_ishr hx hb dX1_rootOfOne_7 ?_
  refine W.eq (congrArg (fun z => F0 m _ ls (.int z :: _)) (show (nI (P - 1)) >>> ((nI k) &&& 31) = nI ((P - 1) / 2 ^ k) from zz_shr (by omega) hk)) ?_
  refine lv_iload_n hx hb dX1_rootOfOne_8 rfl (lv_at hl 1 rfl) ?_
  have hdl := Nat.div_le_self (P - 1) (2 ^ k)
  have hPc := hP.sub (ws' := []) [] rfl
  have hDc := hD.sub (ws' := []) [] (by decide) rfl
  have hKc := hK.sub (tys' := []) [] rfl
  have hFc := va_free (wc := []) hD hS hA [] rfl
  refine va_calll (va_runS (As := [.long (lI 3), .int (nI ((P - 1) / 2 ^ k)), .int (nI P)]) (rest := []) ⟨hx, hb, hml, hown, hts⟩ (c_X1_raise l dC dI 3 ((P - 1) / 2 ^ k) P H.size (by omega) (by omega) (by omega) (by omega) (by omega)) (va_cwS 3 hts gX1_rootOfOne_X1_raise rfl rfl rfl (by decide +kernel) ⟨Nat.le_of_ble_eq_true rfl, Nat.le_of_ble_eq_true rfl⟩) ⟨fun a U g mk q => by obtain ⟨q0, q1, qP, qK, qD⟩ := q; exact ⟨q0, q1, qP, va_K.moved (u := U) (U := U.calling g mk a) (Vm.Alike.refl U.vm) qK, qD⟩, fun U hU hW => ⟨rfl, by rw [hU], by rw [hU]; exact hPc, va_K.moved hW.alike hKc, hDc.weaken (fun _ _ _ _ => trivial)⟩⟩ rfl rfl hl.1 rfl (lv_room (Nat.le_of_ble_eq_true rfl)) dX1_rootOfOne_9 ⟨Nat.le_of_ble_eq_true rfl, Nat.le_of_ble_eq_true rfl⟩) hS (fun q _ h => hFc q h) hFc (fun r9 u9 t9 H1 locs ht hvm hw hB hz1 hk1 hS => ?_)
  obtain ⟨hP1, hD1⟩ := hB
  rw [ht] at hP1
  try dsimp only at hw
  obtain ⟨hP, hD⟩ := va_join (wr := []) (w1 := []) hP hD [] [] rfl rfl (by decide) (by decide) hk1 hFc hP1 hD1
  generalize H1 = H at hP hS ⊢
  have hP : va_P (dC, dI) vwCl [] H := hP
  have hD : va_D A [] := hD
  clear hPc hDc hKc hFc hP1 hD1 hk1 hz1 hvm ht
  subst hw
  have hP9 : va_P (dC, dI) vwCl [] H := hP.sub [] rfl
  have hD9 : va_D A [] := hD.sub [] (by decide) rfl
  exact W.lret (v := lI (3 ^ ((P - 1) / 2 ^ k) % ((P : Nat) : Int))) hx hb hr (fun t ht hW => ⟨⟨lI (3 ^ ((P - 1) / 2 ^ k) % ((P : Nat) : Int)), (), rfl, rfl, by rw [ht]; exact hP9, hD9⟩, hS.F ht⟩) hS.2.2 dX1_rootOfOne_12
