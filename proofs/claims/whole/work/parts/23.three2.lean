abbrev q_X3_keep_bad (dC : Nat → ClassId) (dI : Nat → Nat → Nat) (xo ra rb sm hh ps pb k : Nat) (A : Nat → Prop) : Array Value → State → Outcome → State → Prop := va_Qv (fun (u : Unit) => False) (fun u t => va_P (dC, dI) vwCl [(xo, .inr (2, [.int (nI k), .ref ra, .ref rb, .int (nI 0), .ref sm, .ref hh, .ref ps, .ref pb]))] t.heap ∧ va_D A [(xo, .inr (2, [.int (nI k), .ref ra, .ref rb, .int (nI 0), .ref sm, .ref hh, .ref ps, .ref pb]))]) A
abbrev x_X3_keep_bad (dC : Nat → ClassId) (dI : Nat → Nat → Nat) (xo ra rb sm hh ps pb k : Nat) (A : Nat → Prop) : String → State → State → Prop := vx_X (fun _ : Unit => True) (fun E _ t => (E = "java/lang/IllegalStateException") ∧ va_P (dC, dI) vwCl [(xo, .inr (2, [.int (nI k), .ref ra, .ref rb, .int (nI 0), .ref sm, .ref hh, .ref ps, .ref pb]))] t.heap ∧ va_D A [(xo, .inr (2, [.int (nI k), .ref ra, .ref rb, .int (nI 0), .ref sm, .ref hh, .ref ps, .ref pb]))]) A
set_option maxHeartbeats 4000000 in
set_option maxRecDepth 100000 in
theorem c_X3_keep_bad (l : Launch) (dC : Nat → ClassId) (dI : Nat → Nat → Nat) (xo ra rb sm hh ps pb k : Nat) (sz : Nat) (hl9 : l.stackTraces = false) (tP : Nat) (sa : Nat → Nat) : vx_Met l yX3_keep wsX3_keep ({ frames := 6, cells := 1, slots := 6, locals := 82 }) (va_Pc [.ref xo] (fun U => U.heap.size = sz ∧ va_P (dC, dI) vwCl [(xo, .inr (2, [.int (nI k), .ref ra, .ref rb, .int (nI 0), .ref sm, .ref hh, .ref ps, .ref pb]))] U.heap ∧ va_K (dC, dI) vwCl [] U ∧ va_D (fun _ => True) [(xo, .inr (2, [.int (nI k), .ref ra, .ref rb, .int (nI 0), .ref sm, .ref hh, .ref ps, .ref pb]))] ∧ amb tP sa (va_A [(xo, .inr (2, [.int (nI k), .ref ra, .ref rb, .int (nI 0), .ref sm, .ref hh, .ref ps, .ref pb]))] sz) U U.heap)) (q_X3_keep_bad dC dI xo ra rb sm hh ps pb k (va_A [(xo, .inr (2, [.int (nI k), .ref ra, .ref rb, .int (nI 0), .ref sm, .ref hh, .ref ps, .ref pb]))] sz)) (x_X3_keep_bad dC dI xo ra rb sm hh ps pb k (va_A [(xo, .inr (2, [.int (nI k), .ref ra, .ref rb, .int (nI 0), .ref sm, .ref hh, .ref ps, .ref pb]))] sz)) 1 6 (va_A [(xo, .inr (2, [.int (nI k), .ref ra, .ref rb, .int (nI 0), .ref sm, .ref hh, .ref ps, .ref pb]))] sz) := by
  refine vx_ofW (cc := cX3_keep) (maxL := 1) (ret := none) (by decide) rfl ?_
  intro p e s m args below meth c s₁ B hml htab hv
  obtain ⟨rfl, hsz, hP, hK, hD0, hM⟩ := hv
  have hx := B.exec
  have hb := B.bytes
  have hr := B.returns
  have hts := atoms_spec (ws := wsX3_keep) B.pre
  have hown : s.vm.findClass RX3 = some m.cls := findClass_of_methodNamed B.named
  have hlocks := B.notSynchronized
  subst hsz
  have hD := hD0.self (sz := s.heap.size)
  generalize hAe : va_A [(xo, .inr (2, [.int (nI k), .ref ra, .ref rb, .int (nI 0), .ref sm, .ref hh, .ref ps, .ref pb]))] s.heap.size = A at hD hM ⊢
  have hA : ∀ q : Nat, s.heap.size ≤ q → A q := fun q h => by rw [← hAe]; exact Or.inr h
  have hS : va_S A s.heap s.heap [] := va_S.rf
  have hP : va_P (dC, dI) vwCl [(xo, .inr (2, [.int (nI k), .ref ra, .ref rb, .int (nI 0), .ref sm, .ref hh, .ref ps, .ref pb]))] s.heap := hP
  have hl := lv_entry (([.ref xo] : List Value)) (n := 1) (Nat.le_of_ble_eq_true rfl)
  rw [lg_entry_eq]
  generalize (lg_sl (([.ref xo] : List Value)) ++ List.replicate (1 - (lg_sl (([.ref xo] : List Value))).length) Slot.unset).toArray = ls at hl ⊢
  have hl : lv_has ls 1 [(0, .ref xo)] := hl
  obtain ⟨H, hHe⟩ : ∃ H : Heap, H = s.heap := ⟨_, rfl⟩
  rw [← hHe] at hP
  have hS : va_S A s.heap H [] := by rw [hHe]; exact hS
  obtain ⟨locs, hlo⟩ : ∃ L : List Loc, L = [] := ⟨_, rfl⟩
  rw [← hlo] at hS ⊢
  rw [← hHe]
  refine lv_aload_n hx hb dX3_keep_0 rfl (lv_at hl 0 rfl) ?_
  refine va_get (D := (dC, dI)) (ci := 2) (v := .int (nI 0)) (C := RX3) (T := TX3) (N := 8) hx hb hts (by decide +kernel) hown hK hP 0 rfl rfl 3 (by decide) (hts (.fieldLink RX3 20 "ThreePrimes" "results" "I") (by decide +kernel)) (fun _ h9 => h9) rfl dX3_keep_1 ?_
  refine lv_if_ne (tgt := 17) hx hb dX3_keep_4 (by decide) (fun c_1 => ?_) (fun c_1 => ?_)
  · have c_1 : ¬ (0 = 0) := fun zq9 => c_1 ((nI_eq (a := 0) (b := 0) (by omega) (by omega)).mpr zq9)
    omega
  · have c_1 : 0 = 0 := (nI_eq (a := 0) (b := 0) (by omega) (by omega)).mp c_1
    have hat : ∀ w ∈ vx_atS RX3 115 "java/lang/IllegalStateException" ["java/lang/RuntimeException", "java/lang/Exception"], w.before _ s = true := vx_hat (fun w hw => hts w (List.mem_cons_of_mem _ (List.mem_append_right _ hw))) (fun w hw => List.mem_append_right _ (List.mem_append_right _ hw)) (fun w hw => by have h9 := List.all_eq_true.mp ngL_ok w hw; simp only [Bool.and_eq_true] at h9; exact va_tabs h9.1 rfl (hM.2.2.1 w hw))
    have hP9 : va_P (dC, dI) vwCl [(xo, .inr (2, [.int (nI k), .ref ra, .ref rb, .int (nI 0), .ref sm, .ref hh, .ref ps, .ref pb]))] H := hP.sub [0] rfl
    have hD9 : va_D A [(xo, .inr (2, [.int (nI k), .ref ra, .ref rb, .int (nI 0), .ref sm, .ref hh, .ref ps, .ref pb]))] := hD.sub [0] (by decide) rfl
    exact vx_throwS hx hb hl9 (own := RX3) (cls := "java/lang/IllegalStateException") (text := "nothing was folded") (names := ["java/lang/RuntimeException", "java/lang/Exception"]) (A := A) hown (by decide +kernel) (by decide +kernel) (hts (.classLink RX3 111 "java/lang/IllegalStateException") (by decide +kernel)) (hts (.initialized "java/lang/IllegalStateException") (by decide +kernel)) hM.2.1.2.2.2.1 hat (by decide +kernel) hM.1.2.2.1 hM.1.2.2.2 hS (hl.1.trans hml.symm) dX3_keep_7 dX3_keep_10 dX3_keep_11 dX3_keep_13 dX3_keep_16 (fun x h => (htab x h).elim) (Nat.le_of_ble_eq_true rfl) (Nat.le_of_ble_eq_true rfl) (Nat.le_of_ble_eq_true rfl) (Nat.le_of_ble_eq_true rfl) hlocks (fun t hal hz hk => ⟨(), trivial, ⟨rfl, kept_P hP9 hk, hD9⟩, kept_F hS hz hk⟩) hS.2.2 (Nat.le_of_ble_eq_true rfl) (Nat.le_of_ble_eq_true rfl)

abbrev q_X3_rootToThe (dC : Nat → ClassId) (dI : Nat → Nat → Nat) (xo ra rb sm hh ps pb k rs : Nat) (q : Nat) (e9 : Int32) (A : Nat → Prop) : Array Value → State → Outcome → State → Prop := va_Ql (fun (r : Int64) (u : Unit) => r = lI (frW k (prN q) ^ ex32 e9 k % (prN q : Int))) (fun u t => va_P (dC, dI) vwCl [(xo, .inr (2, [.int (nI k), .ref ra, .ref rb, .int (nI rs), .ref sm, .ref hh, .ref ps, .ref pb]))] t.heap ∧ va_D A [(xo, .inr (2, [.int (nI k), .ref ra, .ref rb, .int (nI rs), .ref sm, .ref hh, .ref ps, .ref pb]))]) A
set_option maxHeartbeats 4000000 in
set_option maxRecDepth 100000 in
theorem c_X3_rootToThe (l : Launch) (dC : Nat → ClassId) (dI : Nat → Nat → Nat) (xo ra rb sm hh ps pb k rs : Nat) (q : Nat) (e9 : Int32) (sz : Nat) (tP : Nat) (sa : Nat → Nat) (zk1 : 1 ≤ k) (zk : k ≤ 8) (zq : q < 3) : Met l yX3_rootToThe wsX3_rootToThe ({ frames := 2, cells := 0, slots := 0, locals := 49 }) (va_Pc [.ref xo, .int (nI q), .int e9] (fun U => U.heap.size = sz ∧ va_P (dC, dI) vwCl [(xo, .inr (2, [.int (nI k), .ref ra, .ref rb, .int (nI rs), .ref sm, .ref hh, .ref ps, .ref pb]))] U.heap ∧ va_K (dC, dI) vwCl [] U ∧ va_D (fun _ => True) [(xo, .inr (2, [.int (nI k), .ref ra, .ref rb, .int (nI rs), .ref sm, .ref hh, .ref ps, .ref pb]))] ∧ amb tP sa (va_A [(xo, .inr (2, [.int (nI k), .ref ra, .ref rb, .int (nI rs), .ref sm, .ref hh, .ref ps, .ref pb]))] sz) U U.heap)) (q_X3_rootToThe dC dI xo ra rb sm hh ps pb k rs q e9 (va_A [(xo, .inr (2, [.int (nI k), .ref ra, .ref rb, .int (nI rs), .ref sm, .ref hh, .ref ps, .ref pb]))] sz)) 0 0 (va_A [(xo, .inr (2, [.int (nI k), .ref ra, .ref rb, .int (nI rs), .ref sm, .ref hh, .ref ps, .ref pb]))] sz) := by
  refine Met.ofW (cc := cX3_rootToThe) (maxL := 4) (ret := (some .long)) (by decide) rfl ?_
  intro p e s m args below meth c s₁ B hml hv
  obtain ⟨rfl, hsz, hP, hK, hD0, hM⟩ := hv
  have hx := B.exec
  have hb := B.bytes
  have hr := B.returns
  have hts := atoms_spec (ws := wsX3_rootToThe) B.pre
  have hown : s.vm.findClass RX3 = some m.cls := findClass_of_methodNamed B.named
  have hlocks := B.notSynchronized
  subst hsz
  have hD := hD0.self (sz := s.heap.size)
  generalize hAe : va_A [(xo, .inr (2, [.int (nI k), .ref ra, .ref rb, .int (nI rs), .ref sm, .ref hh, .ref ps, .ref pb]))] s.heap.size = A at hD hM ⊢
  have hA : ∀ q : Nat, s.heap.size ≤ q → A q := fun q h => by rw [← hAe]; exact Or.inr h
  have hS : va_S A s.heap s.heap [] := va_S.rf
  have hP : va_P (dC, dI) vwCl [(xo, .inr (2, [.int (nI k), .ref ra, .ref rb, .int (nI rs), .ref sm, .ref hh, .ref ps, .ref pb]))] s.heap := hP
  have hl := lv_entry (([.ref xo, .int (nI q), .int e9] : List Value)) (n := 4) (Nat.le_of_ble_eq_true rfl)
  rw [lg_entry_eq]
  generalize (lg_sl (([.ref xo, .int (nI q), .int e9] : List Value)) ++ List.replicate (4 - (lg_sl (([.ref xo, .int (nI q), .int e9] : List Value))).length) Slot.unset).toArray = ls at hl ⊢
  have hl : lv_has ls 4 [(0, .ref xo), (1, .int (nI q)), (2, .int e9)] := hl
  obtain ⟨H, hHe⟩ : ∃ H : Heap, H = s.heap := ⟨_, rfl⟩
  rw [← hHe] at hP
  have hS : va_S A s.heap H [] := by rw [hHe]; exact hS
  obtain ⟨locs, hlo⟩ : ∃ L : List Loc, L = [] := ⟨_, rfl⟩
  rw [← hlo] at hS ⊢
  rw [← hHe]
  have hpk := pw8 zk
  have hpr := prN_b q
  have hex := ex32_lt e9 (k := k)
  have hwr := emod_rng (3 ^ ((prN q - 1) / 2 ^ k)) (show (0 : Int) < prN q by omega)
  have hwf : 3 ^ ((prN q - 1) / 2 ^ k) % (prN q : Int) = frW k (prN q) := rfl
  rw [hwf] at hwr
  refine va_gets hx hb hM.1.1 hS hown (hts (.fieldLink RX3 99 "ThreePrimes" "PRIMES" "[I") (by decide +kernel)) (fun _ h9 => h9) dX3_rootToThe_0 ?_
  refine lv_iload_n hx hb dX3_rootToThe_3 rfl (lv_at hl 1 rfl) ?_
  refine va_ti (v := .int (nI (prN q))) hx hb hM.1.2.1 hS (vp_in_nI (by omega) (by omega)) (by rw [nI_clamp (by omega)]; rfl) dX3_rootToThe_4 ?_
  refine lv_istore_n (lv' := [(3, .int (nI (prN q))), (0, .ref xo), (1, .int (nI q)), (2, .int e9)]) hx hb dX3_rootToThe_5 rfl hl (by decide) rfl (fun ls hl => ?_)
  refine lv_aload_n hx hb dX3_rootToThe_6 rfl (lv_at hl 1 rfl) ?_
  refine va_get (D := (dC, dI)) (ci := 2) (v := .int (nI k)) (C := RX3) (T := TX3) (N := 8) hx hb hts (by decide +kernel) hown hK hP 0 rfl rfl 0 (by decide) (hts (.fieldLink RX3 9 "ThreePrimes" "levels" "I") (by decide +kernel)) (fun _ h9 => h9) rfl dX3_rootToThe_7 ?_
  refine lv_iload_n hx hb dX3_rootToThe_10 rfl (lv_at hl 0 rfl) ?_
  have hPc := hP.sub (ws' := []) [] rfl
  have hDc := hD.sub (ws' := []) [] (by decide) rfl
  have hKc := hK.sub (tys' := []) [] rfl
  have hFc := va_free (wc := []) hD hS hA [] rfl
  refine va_calll (va_runS (As := [.int (nI k), .int (nI (prN q))]) (rest := []) ⟨hx, hb, hml, hown, hts⟩ (c_X1_rootOfOne l dC dI k (prN q) H.size (by omega) (by omega) (by omega)) (va_cwS 2 hts gX3_rootToThe_X1_rootOfOne rfl rfl rfl (by decide +kernel) ⟨Nat.le_of_ble_eq_true rfl, Nat.le_of_ble_eq_true rfl⟩) ⟨fun a U g mk q => by obtain ⟨q0, q1, qP, qK, qD⟩ := q; exact ⟨q0, q1, qP, va_K.moved (u := U) (U := U.calling g mk a) (Vm.Alike.refl U.vm) qK, qD⟩, fun U hU hW => ⟨rfl, by rw [hU], by rw [hU]; exact hPc, va_K.moved hW.alike hKc, hDc.weaken (fun _ _ _ _ => trivial)⟩⟩ rfl rfl hl.1 rfl (lv_room (Nat.le_of_ble_eq_true rfl)) dX3_rootToThe_11 ⟨Nat.le_of_ble_eq_true rfl, Nat.le_of_ble_eq_true rfl⟩) hS (fun q _ h => hFc q h) hFc (fun r9 u9 t9 H1 locs ht hvm hw hB hz1 hk1 hS => ?_)
  obtain ⟨hP1, hD1⟩ := hB
  rw [ht] at hP1
  try dsimp only at hw
  obtain ⟨hP, hD⟩ := va_join (wr := [(xo, .inr (2, [.int (nI k), .ref ra, .ref rb, .int (nI rs), .ref sm, .ref hh, .ref ps, .ref pb]))]) (w1 := []) hP hD [] [0] rfl rfl (by decide) (by decide) hk1 hFc hP1 hD1
  generalize H1 = H at hP hS ⊢
  have hP : va_P (dC, dI) vwCl [(xo, .inr (2, [.int (nI k), .ref ra, .ref rb, .int (nI rs), .ref sm, .ref hh, .ref ps, .ref pb]))] H := hP
  have hD : va_D A [(xo, .inr (2, [.int (nI k), .ref ra, .ref rb, .int (nI rs), .ref sm, .ref hh, .ref ps, .ref pb]))] := hD
  clear hPc hDc hKc hFc hP1 hD1 hk1 hz1 hvm ht
  subst hw
  refine W.eq (congrArg (fun z => F0 m _ ls (.long z :: _)) (show lI (3 ^ ((prN q - 1) / 2 ^ k) % ((prN q : Nat) : Int)) = lI (frW k (prN q)) from rfl)) ?_
  refine lv_iload_n hx hb dX3_rootToThe_14 rfl (lv_at hl 3 rfl) ?_
  refine lv_aload_n hx hb dX3_rootToThe_15 rfl (lv_at hl 1 rfl) ?_
  have hPc := hP.sub (ws' := [(xo, .inr (2, [.int (nI k), .ref ra, .ref rb, .int (nI rs), .ref sm, .ref hh, .ref ps, .ref pb]))]) [0] rfl
  have hDc := hD.sub (ws' := [(xo, .inr (2, [.int (nI k), .ref ra, .ref rb, .int (nI rs), .ref sm, .ref hh, .ref ps, .ref pb]))]) [0] (by decide) rfl
  have hKc := hK.sub (tys' := []) [] rfl
  have hFc := va_free (wc := [(xo, .inr (2, [.int (nI k), .ref ra, .ref rb, .int (nI rs), .ref sm, .ref hh, .ref ps, .ref pb]))]) hD hS hA [0] rfl
  refine va_calli (va_runV (As := []) (rest := [.int e9, .long (lI (frW k (prN q)))]) ⟨hx, hb, hml, hown, hts⟩ (c_X3_places l dC dI xo ra rb sm hh ps pb k rs H.size (by omega) (by omega)) (cwV 0 hts gX3_rootToThe_X3_places rfl rfl rfl (by decide +kernel) ⟨Nat.le_of_ble_eq_true rfl, Nat.le_of_ble_eq_true rfl⟩) ⟨fun a U g mk q => by obtain ⟨q0, q1, qP, qK, qD⟩ := q; exact ⟨q0, q1, qP, va_K.moved (u := U) (U := U.calling g mk a) (Vm.Alike.refl U.vm) qK, qD⟩, va_recv hKc hPc (ci := 2) (q0 := 0) rfl rfl, fun U hU hW => ⟨rfl, by rw [hU], by rw [hU]; exact hPc, va_K.moved hW.alike hKc, hDc.weaken (fun _ _ _ _ => trivial)⟩⟩ rfl rfl hl.1 rfl (lv_room (Nat.le_of_ble_eq_true rfl)) dX3_rootToThe_16 ⟨Nat.le_of_ble_eq_true rfl, Nat.le_of_ble_eq_true rfl⟩) hS (fun q _ h => hFc q h) hFc (fun r9 u9 t9 H1 locs ht hvm hw hB hz1 hk1 hS => ?_)
  obtain ⟨hP1, hD1⟩ := hB
  rw [ht] at hP1
  try dsimp only at hw
  obtain ⟨hP, hD⟩ := va_join (wr := []) (w1 := [(xo, .inr (2, [.int (nI k), .ref ra, .ref rb, .int (nI rs), .ref sm, .ref hh, .ref ps, .ref pb]))]) hP hD [0] [] rfl rfl (by decide) (by decide) hk1 hFc hP1 hD1
  generalize H1 = H at hP hS ⊢
  have hP : va_P (dC, dI) vwCl [(xo, .inr (2, [.int (nI k), .ref ra, .ref rb, .int (nI rs), .ref sm, .ref hh, .ref ps, .ref pb]))] H := hP
  have hD : va_D A [(xo, .inr (2, [.int (nI k), .ref ra, .ref rb, .int (nI rs), .ref sm, .ref hh, .ref ps, .ref pb]))] := hD
  clear hPc hDc hKc hFc hP1 hD1 hk1 hz1 hvm ht
  subst hw
  refine lv_iconst (v := nI 1) hx hb dX3_rootToThe_19 (by decide) ?_
  refine lv_isub hx hb dX3_rootToThe_20 ?_
  refine W.eq (congrArg (fun z => F0 m _ ls (.int z :: _)) (show (nI (2 ^ k)) - (nI 1) = nI (2 ^ k - 1) from pk_sub (by omega))) ?_
  refine lv_iand hx hb dX3_rootToThe_21 ?_
  refine W.eq (congrArg (fun z => F0 m _ ls (.int z :: _)) (show e9 &&& (nI (2 ^ k - 1)) = nI (ex32 e9 k) from ex32_and e9 zk)) ?_
  refine lv_iload_n hx hb dX3_rootToThe_22 rfl (lv_at hl 0 rfl) ?_
  have hPc := hP.sub (ws' := []) [] rfl
  have hDc := hD.sub (ws' := []) [] (by decide) rfl
  have hKc := hK.sub (tys' := []) [] rfl
  have hFc := va_free (wc := []) hD hS hA [] rfl
  refine va_calll (va_runS (As := [.long (lI (frW k (prN q))), .int (nI (ex32 e9 k)), .int (nI (prN q))]) (rest := []) ⟨hx, hb, hml, hown, hts⟩ (c_X1_raise l dC dI (frW k (prN q)) (ex32 e9 k) (prN q) H.size (by omega) (by omega) (by omega) (by omega) (by omega)) (va_cwS 3 hts gX3_rootToThe_X1_raise rfl rfl rfl (by decide +kernel) ⟨Nat.le_of_ble_eq_true rfl, Nat.le_of_ble_eq_true rfl⟩) ⟨fun a U g mk q => by obtain ⟨q0, q1, qP, qK, qD⟩ := q; exact ⟨q0, q1, qP, va_K.moved (u := U) (U := U.calling g mk a) (Vm.Alike.refl U.vm) qK, qD⟩, fun U hU hW => ⟨rfl, by rw [hU], by rw [hU]; exact hPc, va_K.moved hW.alike hKc, hDc.weaken (fun _ _ _ _ => trivial)⟩⟩ rfl rfl hl.1 rfl (lv_room (Nat.le_of_ble_eq_true rfl)) dX3_rootToThe_23 ⟨Nat.le_of_ble_eq_true rfl, Nat.le_of_ble_eq_true rfl⟩) hS (fun q _ h => hFc q h) hFc (fun r9 u9 t9 H1 locs ht hvm hw hB hz1 hk1 hS => ?_)
  obtain ⟨hP1, hD1⟩ := hB
  rw [ht] at hP1
  try dsimp only at hw
  obtain ⟨hP, hD⟩ := va_join (wr := [(xo, .inr (2, [.int (nI k), .ref ra, .ref rb, .int (nI rs), .ref sm, .ref hh, .ref ps, .ref pb]))]) (w1 := []) hP hD [] [0] rfl rfl (by decide) (by decide) hk1 hFc hP1 hD1
  generalize H1 = H at hP hS ⊢
  have hP : va_P (dC, dI) vwCl [(xo, .inr (2, [.int (nI k), .ref ra, .ref rb, .int (nI rs), .ref sm, .ref hh, .ref ps, .ref pb]))] H := hP
  have hD : va_D A [(xo, .inr (2, [.int (nI k), .ref ra, .ref rb, .int (nI rs), .ref sm, .ref hh, .ref ps, .ref pb]))] := hD
  clear hPc hDc hKc hFc hP1 hD1 hk1 hz1 hvm ht
  subst hw
  have hP9 : va_P (dC, dI) vwCl [(xo, .inr (2, [.int (nI k), .ref ra, .ref rb, .int (nI rs), .ref sm, .ref hh, .ref ps, .ref pb]))] H := hP.sub [0] rfl
  have hD9 : va_D A [(xo, .inr (2, [.int (nI k), .ref ra, .ref rb, .int (nI rs), .ref sm, .ref hh, .ref ps, .ref pb]))] := hD.sub [0] (by decide) rfl
  exact W.lret (v := lI ((frW k (prN q)) ^ (ex32 e9 k) % ((prN q : Nat) : Int))) hx hb hr (fun t ht hW => ⟨⟨lI ((frW k (prN q)) ^ (ex32 e9 k) % ((prN q : Nat) : Int)), (), rfl, rfl, by rw [ht]; exact hP9, hD9⟩, hS.F ht⟩) hS.2.2 dX3_rootToThe_26

abbrev q_X3_rowAAt (dC : Nat → ClassId) (dI : Nat → Nat → Nat) (xo ra rb sm hh ps pb k rs : Nat) (cI : ClassId) (fA : Nat → Int32) (x : Int) (P : Nat) (A : Nat → Prop) : Array Value → State → Outcome → State → Prop := va_Ql (fun (r : Int64) (u : Unit) => r = lI (hz fA x 0 (2 ^ k) % (P : Int))) (fun u t => va_P (dC, dI) vwCl [(xo, .inr (2, [.int (nI k), .ref ra, .ref rb, .int (nI rs), .ref sm, .ref hh, .ref ps, .ref pb])), (ra, .inl (cI, 256, .inl fA))] t.heap ∧ va_D A [(xo, .inr (2, [.int (nI k), .ref ra, .ref rb, .int (nI rs), .ref sm, .ref hh, .ref ps, .ref pb])), (ra, .inl (cI, 256, .inl fA))]) A
set_option maxHeartbeats 4000000 in
set_option maxRecDepth 100000 in
theorem c_X3_rowAAt (l : Launch) (dC : Nat → ClassId) (dI : Nat → Nat → Nat) (xo ra rb sm hh ps pb k rs : Nat) (cI : ClassId) (fA : Nat → Int32) (x : Int) (P : Nat) (sz : Nat) (zk1 : 1 ≤ k) (zk : k ≤ 8) (zx0 : 0 ≤ x) (zx1 : x < P) (zP : 512 < P) (hp2 : P ≤ 2 ^ 30) : Met l yX3_rowAAt wsX3_rowAAt ({ frames := 1, cells := 0, slots := 0, locals := 24 }) (va_Pc [.ref xo, .long (lI x), .int (nI P)] (fun U => U.heap.size = sz ∧ va_P (dC, dI) vwCl [(xo, .inr (2, [.int (nI k), .ref ra, .ref rb, .int (nI rs), .ref sm, .ref hh, .ref ps, .ref pb])), (ra, .inl (cI, 256, .inl fA))] U.heap ∧ va_K (dC, dI) vwCl [(cI, .int)] U ∧ va_D (fun _ => True) [(xo, .inr (2, [.int (nI k), .ref ra, .ref rb, .int (nI rs), .ref sm, .ref hh, .ref ps, .ref pb])), (ra, .inl (cI, 256, .inl fA))])) (q_X3_rowAAt dC dI xo ra rb sm hh ps pb k rs cI fA x P (va_A [(xo, .inr (2, [.int (nI k), .ref ra, .ref rb, .int (nI rs), .ref sm, .ref hh, .ref ps, .ref pb])), (ra, .inl (cI, 256, .inl fA))] sz)) 0 0 (va_A [(xo, .inr (2, [.int (nI k), .ref ra, .ref rb, .int (nI rs), .ref sm, .ref hh, .ref ps, .ref pb])), (ra, .inl (cI, 256, .inl fA))] sz) := by
  refine Met.ofW (cc := cX3_rowAAt) (maxL := 7) (ret := (some .long)) (by decide) rfl ?_
  intro p e s m args below meth c s₁ B hml hv
  obtain ⟨rfl, hsz, hP, hK, hD0⟩ := hv
  have hx := B.exec
  have hb := B.bytes
  have hr := B.returns
  have hts := atoms_spec (ws := wsX3_rowAAt) B.pre
  have hown : s.vm.findClass RX3 = some m.cls := findClass_of_methodNamed B.named
  have hlocks := B.notSynchronized
  subst hsz
  have hD := hD0.self (sz := s.heap.size)
  generalize hAe : va_A [(xo, .inr (2, [.int (nI k), .ref ra, .ref rb, .int (nI rs), .ref sm, .ref hh, .ref ps, .ref pb])), (ra, .inl (cI, 256, .inl fA))] s.heap.size = A at hD ⊢
  have hA : ∀ q : Nat, s.heap.size ≤ q → A q := fun q h => by rw [← hAe]; exact Or.inr h
  have hS : va_S A s.heap s.heap [] := va_S.rf
  have hP : va_P (dC, dI) vwCl [(xo, .inr (2, [.int (nI k), .ref ra, .ref rb, .int (nI rs), .ref sm, .ref hh, .ref ps, .ref pb])), (ra, .inl (cI, 256, .inl fA))] s.heap := hP
  have hl := lv_entry (([.ref xo, .long (lI x), .int (nI P)] : List Value)) (n := 7) (Nat.le_of_ble_eq_true rfl)
  rw [lg_entry_eq]
  generalize (lg_sl (([.ref xo, .long (lI x), .int (nI P)] : List Value)) ++ List.replicate (7 - (lg_sl (([.ref xo, .long (lI x), .int (nI P)] : List Value))).length) Slot.unset).toArray = ls at hl ⊢
  have hl : lv_has ls 7 [(0, .ref xo), (1, .long (lI x)), (3, .int (nI P))] := hl
  obtain ⟨H, hHe⟩ : ∃ H : Heap, H = s.heap := ⟨_, rfl⟩
  rw [← hHe] at hP
  have hS : va_S A s.heap H [] := by rw [hHe]; exact hS
  obtain ⟨locs, hlo⟩ : ∃ L : List Loc, L = [] := ⟨_, rfl⟩
  rw [← hlo] at hS ⊢
  rw [← hHe]
  have hpk := pw8 zk
  refine lv_lconst (v := lI 0) hx hb dX3_rowAAt_0 (by decide) ?_
  refine lv_lstore (lv' := [(4, .long (lI 0)), (0, .ref xo), (1, .long (lI x)), (3, .int (nI P))]) hx hb dX3_rowAAt_1 hl (by decide) rfl (fun ls hl => ?_)
  refine lv_aload_n hx hb dX3_rowAAt_3 rfl (lv_at hl 1 rfl) ?_
  have hPc := hP.sub (ws' := [(xo, .inr (2, [.int (nI k), .ref ra, .ref rb, .int (nI rs), .ref sm, .ref hh, .ref ps, .ref pb]))]) [0] rfl
  have hDc := hD.sub (ws' := [(xo, .inr (2, [.int (nI k), .ref ra, .ref rb, .int (nI rs), .ref sm, .ref hh, .ref ps, .ref pb]))]) [0] (by decide) rfl
  have hKc := hK.sub (tys' := []) [] rfl
  have hFc := va_free (wc := [(xo, .inr (2, [.int (nI k), .ref ra, .ref rb, .int (nI rs), .ref sm, .ref hh, .ref ps, .ref pb]))]) hD hS hA [0] rfl
  refine va_calli (va_runV (As := []) (rest := []) ⟨hx, hb, hml, hown, hts⟩ (c_X3_places l dC dI xo ra rb sm hh ps pb k rs H.size (by omega) (by omega)) (cwV 0 hts gX3_rowAAt_X3_places rfl rfl rfl (by decide +kernel) ⟨Nat.le_of_ble_eq_true rfl, Nat.le_of_ble_eq_true rfl⟩) ⟨fun a U g mk q => by obtain ⟨q0, q1, qP, qK, qD⟩ := q; exact ⟨q0, q1, qP, va_K.moved (u := U) (U := U.calling g mk a) (Vm.Alike.refl U.vm) qK, qD⟩, va_recv hKc hPc (ci := 2) (q0 := 0) rfl rfl, fun U hU hW => ⟨rfl, by rw [hU], by rw [hU]; exact hPc, va_K.moved hW.alike hKc, hDc.weaken (fun _ _ _ _ => trivial)⟩⟩ rfl rfl hl.1 rfl (lv_room (Nat.le_of_ble_eq_true rfl)) dX3_rowAAt_4 ⟨Nat.le_of_ble_eq_true rfl, Nat.le_of_ble_eq_true rfl⟩) hS (fun q _ h => hFc q h) hFc (fun r9 u9 t9 H1 locs ht hvm hw hB hz1 hk1 hS => ?_)
  obtain ⟨hP1, hD1⟩ := hB
  rw [ht] at hP1
  try dsimp only at hw
  obtain ⟨hP, hD⟩ := va_join (wr := [(ra, .inl (cI, 256, .inl fA))]) (w1 := [(xo, .inr (2, [.int (nI k), .ref ra, .ref rb, .int (nI rs), .ref sm, .ref hh, .ref ps, .ref pb]))]) hP hD [0] [1] rfl rfl (by decide) (by decide) hk1 hFc hP1 hD1
  generalize H1 = H at hP hS ⊢
  have hP : va_P (dC, dI) vwCl [(ra, .inl (cI, 256, .inl fA)), (xo, .inr (2, [.int (nI k), .ref ra, .ref rb, .int (nI rs), .ref sm, .ref hh, .ref ps, .ref pb]))] H := hP
  have hD : va_D A [(ra, .inl (cI, 256, .inl fA)), (xo, .inr (2, [.int (nI k), .ref ra, .ref rb, .int (nI rs), .ref sm, .ref hh, .ref ps, .ref pb]))] := hD
  clear hPc hDc hKc hFc hP1 hD1 hk1 hz1 hvm ht
  subst hw
  refine lv_iconst (v := nI 1) hx hb dX3_rowAAt_7 (by decide) ?_
  refine lv_isub hx hb dX3_rowAAt_8 ?_
  refine W.eq (congrArg (fun z => F0 m _ ls (.int z :: _)) (show (nI (2 ^ k)) - (nI 1) = zm (2 ^ k) from zm_i (2 ^ k))) ?_
  refine lv_istore (lv' := [(6, .int (zm (2 ^ k))), (4, .long (lI 0)), (0, .ref xo), (1, .long (lI x)), (3, .int (nI P))]) hx hb dX3_rowAAt_9 hl (by decide) rfl (fun ls hl => ?_)
  have key_11 : ∀ (fuel : Nat) (z : Int) (c9 : Nat), (-(P : Int) < z) → (z < P) → (c9 ≤ 2 ^ k) → (z % (P : Int) = hz fA x c9 (2 ^ k - c9) % (P : Int)) → (c9 < fuel) → ∀ (H : Heap) (locs : List Loc) (ls : Array Slot), va_P (dC, dI) vwCl [(xo, .inr (2, [.int (nI k), .ref ra, .ref rb, .int (nI rs), .ref sm, .ref hh, .ref ps, .ref pb])), (ra, .inl (cI, 256, .inl fA))] H → va_D A [(xo, .inr (2, [.int (nI k), .ref ra, .ref rb, .int (nI rs), .ref sm, .ref hh, .ref ps, .ref pb])), (ra, .inl (cI, 256, .inl fA))] → va_S A s.heap H locs → lv_has ls 7 [(6, .int (zm c9)), (4, .long (lI z)), (3, .int (nI P)), (1, .long (lI x)), (0, .ref xo)] → W p l e (headSpec wsX3_rowAAt { frames := 1, cells := 0, slots := 0, locals := 24 }).room s m ([.ref xo, .long (lI x), .int (nI P)] : List Value).toArray below meth c H locs 0 0 (MQ below (q_X3_rowAAt dC dI xo ra rb sm hh ps pb k rs cI fA x P  A) ([.ref xo, .long (lI x), .int (nI P)] : List Value).toArray s 0 0 A) (F0 m 11 ls []) := by
    intro fuel
    induction fuel with
    | zero => intro z c9; intros; omega
    | succ fuel ih_11 =>
      intro z c9 hs0 hs1 hc9 hinv hfu H locs ls hP hD hS hl
      rcases c9 with _ | v
      · refine lv_iload hx hb dX3_rowAAt_11 (lv_at hl 0 rfl) ?_
        refine lv_if_lt (tgt := 40) hx hb dX3_rowAAt_13 (by decide) (fun c_1 => ?_) (fun c_1 => ?_)
        · refine lv_lload hx hb dX3_rowAAt_40 (lv_at hl 1 rfl) ?_
          refine lv_iload_n hx hb dX3_rowAAt_42 rfl (lv_at hl 2 rfl) ?_
          have hPc := hP.sub (ws' := []) [] rfl
          have hDc := hD.sub (ws' := []) [] (by decide) rfl
          have hKc := hK.sub (tys' := []) [] rfl
          have hFc := va_free (wc := []) hD hS hA [] rfl
          refine va_calll (va_runS (As := [.long (lI z), .int (nI P)]) (rest := []) ⟨hx, hb, hml, hown, hts⟩ (c_X1_remainder l dC dI z P H.size (by omega) (by omega) (by omega) (by omega)) (va_cwS 2 hts gX3_rowAAt_X1_remainder rfl rfl rfl (by decide +kernel) ⟨Nat.le_of_ble_eq_true rfl, Nat.le_of_ble_eq_true rfl⟩) ⟨fun a U g mk q => by obtain ⟨q0, q1, qP, qK, qD⟩ := q; exact ⟨q0, q1, qP, va_K.moved (u := U) (U := U.calling g mk a) (Vm.Alike.refl U.vm) qK, qD⟩, fun U hU hW => ⟨rfl, by rw [hU], by rw [hU]; exact hPc, va_K.moved hW.alike hKc, hDc.weaken (fun _ _ _ _ => trivial)⟩⟩ rfl rfl hl.1 rfl (lv_room (Nat.le_of_ble_eq_true rfl)) dX3_rowAAt_43 ⟨Nat.le_of_ble_eq_true rfl, Nat.le_of_ble_eq_true rfl⟩) hS (fun q _ h => hFc q h) hFc (fun r9 u9 t9 H1 locs ht hvm hw hB hz1 hk1 hS => ?_)
          obtain ⟨hP1, hD1⟩ := hB
          rw [ht] at hP1
          try dsimp only at hw
          obtain ⟨hP, hD⟩ := va_join (wr := [(xo, .inr (2, [.int (nI k), .ref ra, .ref rb, .int (nI rs), .ref sm, .ref hh, .ref ps, .ref pb])), (ra, .inl (cI, 256, .inl fA))]) (w1 := []) hP hD [] [0, 1] rfl rfl (by decide) (by decide) hk1 hFc hP1 hD1
          generalize H1 = H at hP hS ⊢
          have hP : va_P (dC, dI) vwCl [(xo, .inr (2, [.int (nI k), .ref ra, .ref rb, .int (nI rs), .ref sm, .ref hh, .ref ps, .ref pb])), (ra, .inl (cI, 256, .inl fA))] H := hP
          have hD : va_D A [(xo, .inr (2, [.int (nI k), .ref ra, .ref rb, .int (nI rs), .ref sm, .ref hh, .ref ps, .ref pb])), (ra, .inl (cI, 256, .inl fA))] := hD
          clear hPc hDc hKc hFc hP1 hD1 hk1 hz1 hvm ht
          subst hw
          have hP9 : va_P (dC, dI) vwCl [(xo, .inr (2, [.int (nI k), .ref ra, .ref rb, .int (nI rs), .ref sm, .ref hh, .ref ps, .ref pb])), (ra, .inl (cI, 256, .inl fA))] H := hP.sub [0, 1] rfl
          have hD9 : va_D A [(xo, .inr (2, [.int (nI k), .ref ra, .ref rb, .int (nI rs), .ref sm, .ref hh, .ref ps, .ref pb])), (ra, .inl (cI, 256, .inl fA))] := hD.sub [0, 1] (by decide) rfl
          exact W.lret (v := lI (z % ((P : Nat) : Int))) hx hb hr (fun t ht hW => ⟨⟨lI (z % ((P : Nat) : Int)), (), rfl, by rw [hinv, Nat.sub_zero], by rw [ht]; exact hP9, hD9⟩, hS.F ht⟩) hS.2.2 dX3_rowAAt_46
        · exact absurd zm_0 c_1
      · rw [zm_s] at hl
        have fb := i32b (fA v)
        have mb := mul_sb hs0 hs1 zx0 zx1 (by omega)
        have tb := tmod_b (z * x + (fA v).toInt) (show (0 : Int) < P by omega)
        refine lv_iload hx hb dX3_rowAAt_11 (lv_at hl 0 rfl) ?_
        refine lv_if_lt (tgt := 40) hx hb dX3_rowAAt_13 (by decide) (fun c_2 => ?_) (fun c_2 => ?_)
        · have c_2 : v < 0 := (nI_ltI (a := v) (b := 0) (by omega) (by omega)).mp c_2
          omega
        · have c_2 : ¬ (v < 0) := fun zq9 => c_2 ((nI_ltI (a := v) (b := 0) (by omega) (by omega)).mpr zq9)
          refine lv_lload hx hb dX3_rowAAt_16 (lv_at hl 1 rfl) ?_
          refine lv_lload_n hx hb dX3_rowAAt_18 rfl (lv_at hl 3 rfl) ?_
          refine lv_lmul hx hb dX3_rowAAt_19 ?_
          refine W.eq (congrArg (fun z => F0 m _ ls (.long z :: _)) (show lI z * lI x = lI (z * x) from lI_mul z x)) ?_
          refine lv_aload_n hx hb dX3_rowAAt_20 rfl (lv_at hl 4 rfl) ?_
          refine va_get (D := (dC, dI)) (ci := 2) (v := .ref ra) (C := RX3) (T := TX3) (N := 8) hx hb hts (by decide +kernel) hown hK hP 0 rfl rfl 1 (by decide) (hts (.fieldLink RX3 13 "ThreePrimes" "rowA" "[I") (by decide +kernel)) (fun _ h9 => h9) rfl dX3_rowAAt_21 ?_
          refine lv_iload hx hb dX3_rowAAt_24 (lv_at hl 0 rfl) ?_
          refine va_iald hx hb hK hP 1 0 rfl rfl (vp_in_nI (by omega) (by omega)) dX3_rowAAt_26 ?_
          refine W.eq (g2 := F0 m _ ls [.int (fA v), .long (lI (z * x))]) (by rw [nI_clamp (by omega)]) ?_
          refine lv_i2l (v := lI ((fA v).toInt)) hx hb dX3_rowAAt_27 (i2l_I (fA v)) ?_
          refine lv_ladd hx hb dX3_rowAAt_28 ?_
          refine W.eq (congrArg (fun z => F0 m _ ls (.long z :: _)) (show lI (z * x) + lI ((fA v).toInt) = lI ((z * x) + ((fA v).toInt)) from lI_add (z * x) ((fA v).toInt))) ?_
          refine lv_iload_n hx hb dX3_rowAAt_29 rfl (lv_at hl 2 rfl) ?_
          refine lv_i2l (v := lI ((P : Nat) : Int)) hx hb dX3_rowAAt_30 (nI_lI (by omega)) ?_
          refine lv_lrem hx hb dX3_rowAAt_31 (fun zq9 => absurd ((lI_eq (b := 0) (by omega) (by omega) (by omega) (by omega)).mp zq9) (by omega)) ?_
          refine W.eq (congrArg (fun z => F0 m _ ls (.long z :: _)) (show lI ((z * x) + ((fA v).toInt)) - lI ((z * x) + ((fA v).toInt)) / lI ((P : Nat) : Int) * lI ((P : Nat) : Int) = lI (((z * x) + ((fA v).toInt)).tmod ((P : Nat) : Int)) from lI_rem (by omega) (by omega) (by omega) (by omega))) ?_
          refine lv_lstore (lv' := [(4, .long (lI (((z * x) + ((fA v).toInt)).tmod ((P : Nat) : Int)))), (6, .int (nI v)), (3, .int (nI P)), (1, .long (lI x)), (0, .ref xo)]) hx hb dX3_rowAAt_32 hl (by decide) rfl (fun ls hl => ?_)
          refine lv_iinc (v := zm v) (lv' := [(6, .int (zm v)), (4, .long (lI (((z * x) + ((fA v).toInt)).tmod ((P : Nat) : Int)))), (3, .int (nI P)), (1, .long (lI x)), (0, .ref xo)]) hx hb dX3_rowAAt_34 hl (k := 1) rfl (rfl) (by decide) rfl (fun ls hl => ?_)
          refine lv_goto (tgt := 11) hx hb dX3_rowAAt_37 (by decide) ?_
          exact ih_11  ((z * x + (fA v).toInt).tmod (P : Int)) v (by omega) (by omega) (by omega) (by rw [show 2 ^ k - v = (2 ^ k - (v + 1)) + 1 by omega]; exact hz_step hinv) (by omega) _ _ _ (hP.sub [0, 1] rfl) (hD.sub [0, 1] (by decide) rfl) hS (lv_sub hl [0, 1, 2, 3, 4] rfl)
  exact key_11 (2 ^ k + 1) 0 (2 ^ k) (by omega) (by omega) (by omega) (by rw [Nat.sub_self]; rfl) (by omega) _ _ _ (hP.sub [1, 0] rfl) (hD.sub [1, 0] (by decide) rfl) hS (lv_sub hl [0, 1, 4, 3, 2] rfl)

abbrev q_X3_value_ok (dC : Nat → ClassId) (dI : Nat → Nat → Nat) (xo ra rb sm hh ps pb k rs : Nat) (cI : ClassId) (fA : Nat → Int32) (q j : Nat) (A : Nat → Prop) : Array Value → State → Outcome → State → Prop := va_Qi (fun (r : Int32) (u : Unit) => r = iI (hz fA (frW k (prN q) ^ ex32 (nI j) k % (prN q : Int)) 0 (2 ^ k) % (prN q : Int))) (fun u t => va_P (dC, dI) vwCl [(xo, .inr (2, [.int (nI k), .ref ra, .ref rb, .int (nI rs), .ref sm, .ref hh, .ref ps, .ref pb])), (ra, .inl (cI, 256, .inl fA))] t.heap ∧ va_D A [(xo, .inr (2, [.int (nI k), .ref ra, .ref rb, .int (nI rs), .ref sm, .ref hh, .ref ps, .ref pb])), (ra, .inl (cI, 256, .inl fA))]) A
set_option maxHeartbeats 4000000 in
set_option maxRecDepth 100000 in
theorem c_X3_value_ok (l : Launch) (dC : Nat → ClassId) (dI : Nat → Nat → Nat) (xo ra rb sm hh ps pb k rs : Nat) (cI : ClassId) (fA : Nat → Int32) (q j : Nat) (sz : Nat) (tP : Nat) (sa : Nat → Nat) (zk1 : 1 ≤ k) (zk : k ≤ 8) (zq : q < 3) (zj : j < 2 ^ k) : Met l yX3_value wsX3_value ({ frames := 3, cells := 0, slots := 0, locals := 72 }) (va_Pc [.ref xo, .int (nI q), .int (nI j)] (fun U => U.heap.size = sz ∧ va_P (dC, dI) vwCl [(xo, .inr (2, [.int (nI k), .ref ra, .ref rb, .int (nI rs), .ref sm, .ref hh, .ref ps, .ref pb])), (ra, .inl (cI, 256, .inl fA))] U.heap ∧ va_K (dC, dI) vwCl [(cI, .int)] U ∧ va_D (fun _ => True) [(xo, .inr (2, [.int (nI k), .ref ra, .ref rb, .int (nI rs), .ref sm, .ref hh, .ref ps, .ref pb])), (ra, .inl (cI, 256, .inl fA))] ∧ amb tP sa (va_A [(xo, .inr (2, [.int (nI k), .ref ra, .ref rb, .int (nI rs), .ref sm, .ref hh, .ref ps, .ref pb])), (ra, .inl (cI, 256, .inl fA))] sz) U U.heap)) (q_X3_value_ok dC dI xo ra rb sm hh ps pb k rs cI fA q j (va_A [(xo, .inr (2, [.int (nI k), .ref ra, .ref rb, .int (nI rs), .ref sm, .ref hh, .ref ps, .ref pb])), (ra, .inl (cI, 256, .inl fA))] sz)) 0 0 (va_A [(xo, .inr (2, [.int (nI k), .ref ra, .ref rb, .int (nI rs), .ref sm, .ref hh, .ref ps, .ref pb])), (ra, .inl (cI, 256, .inl fA))] sz) := by
  refine Met.ofW (cc := cX3_value) (maxL := 3) (ret := (some .int)) (by decide) rfl ?_
  intro p e s m args below meth c s₁ B hml hv
  obtain ⟨rfl, hsz, hP, hK, hD0, hM⟩ := hv
  have hx := B.exec
  have hb := B.bytes
  have hr := B.returns
  have hts := atoms_spec (ws := wsX3_value) B.pre
  have hown : s.vm.findClass RX3 = some m.cls := findClass_of_methodNamed B.named
  have hlocks := B.notSynchronized
  subst hsz
  have hD := hD0.self (sz := s.heap.size)
  generalize hAe : va_A [(xo, .inr (2, [.int (nI k), .ref ra, .ref rb, .int (nI rs), .ref sm, .ref hh, .ref ps, .ref pb])), (ra, .inl (cI, 256, .inl fA))] s.heap.size = A at hD hM ⊢
  have hA : ∀ q : Nat, s.heap.size ≤ q → A q := fun q h => by rw [← hAe]; exact Or.inr h
  have hS : va_S A s.heap s.heap [] := va_S.rf
  have hP : va_P (dC, dI) vwCl [(xo, .inr (2, [.int (nI k), .ref ra, .ref rb, .int (nI rs), .ref sm, .ref hh, .ref ps, .ref pb])), (ra, .inl (cI, 256, .inl fA))] s.heap := hP
  have hl := lv_entry (([.ref xo, .int (nI q), .int (nI j)] : List Value)) (n := 3) (Nat.le_of_ble_eq_true rfl)
  rw [lg_entry_eq]
  generalize (lg_sl (([.ref xo, .int (nI q), .int (nI j)] : List Value)) ++ List.replicate (3 - (lg_sl (([.ref xo, .int (nI q), .int (nI j)] : List Value))).length) Slot.unset).toArray = ls at hl ⊢
  have hl : lv_has ls 3 [(0, .ref xo), (1, .int (nI q)), (2, .int (nI j))] := hl
  obtain ⟨H, hHe⟩ : ∃ H : Heap, H = s.heap := ⟨_, rfl⟩
  rw [← hHe] at hP
  have hS : va_S A s.heap H [] := by rw [hHe]; exact hS
  obtain ⟨locs, hlo⟩ : ∃ L : List Loc, L = [] := ⟨_, rfl⟩
  rw [← hlo] at hS ⊢
  rw [← hHe]
  have hpk := pw8 zk
  have hpr := prN_b q
  have hxr := emod_rng (frW k (prN q) ^ ex32 (nI j) k) (show (0 : Int) < prN q by omega)
  refine lv_aload_n hx hb dX3_value_0 rfl (lv_at hl 0 rfl) ?_
  refine lv_iload_n hx hb dX3_value_1 rfl (lv_at hl 1 rfl) ?_
  have hPc := hP.sub (ws' := [(xo, .inr (2, [.int (nI k), .ref ra, .ref rb, .int (nI rs), .ref sm, .ref hh, .ref ps, .ref pb]))]) [0] rfl
  have hDc := hD.sub (ws' := [(xo, .inr (2, [.int (nI k), .ref ra, .ref rb, .int (nI rs), .ref sm, .ref hh, .ref ps, .ref pb]))]) [0] (by decide) rfl
  have hKc := hK.sub (tys' := []) [] rfl
  have hFc := va_free (wc := [(xo, .inr (2, [.int (nI k), .ref ra, .ref rb, .int (nI rs), .ref sm, .ref hh, .ref ps, .ref pb]))]) hD hS hA [0] rfl
  refine va_callv (va_runV (As := [.int (nI q)]) (rest := []) ⟨hx, hb, hml, hown, hts⟩ (c_X3_requirePrime_ok l dC dI xo ra rb sm hh ps pb k rs q H.size tP sa (by omega)) (cwV 1 hts gX3_value_X3_requirePrime rfl rfl rfl (by decide +kernel) ⟨Nat.le_of_ble_eq_true rfl, Nat.le_of_ble_eq_true rfl⟩) ⟨fun a U g mk q => by obtain ⟨q0, q1, qP, qK, qD, qM⟩ := q; exact ⟨q0, q1, qP, va_K.moved (u := U) (U := U.calling g mk a) (Vm.Alike.refl U.vm) qK, qD, amb_same (U := U) (U' := U.calling g mk a) rfl rfl qM⟩, va_recv hKc hPc (ci := 2) (q0 := 0) rfl rfl, fun U hU hW => ⟨rfl, by rw [hU], by rw [hU]; exact hPc, va_K.moved hW.alike hKc, hDc.weaken (fun _ _ _ _ => trivial), amb_pass hM hS hFc hW hU⟩⟩ rfl rfl hl.1 rfl (lv_room (Nat.le_of_ble_eq_true rfl)) dX3_value_2 ⟨Nat.le_of_ble_eq_true rfl, Nat.le_of_ble_eq_true rfl⟩) hS (fun q _ h => hFc q h) hFc (fun u9 t9 H1 locs ht hvm hw hB hz1 hk1 hS => ?_)
  obtain ⟨hP1, hD1⟩ := hB
  rw [ht] at hP1
  try dsimp only at hw
  obtain ⟨hP, hD⟩ := va_join (wr := [(ra, .inl (cI, 256, .inl fA))]) (w1 := [(xo, .inr (2, [.int (nI k), .ref ra, .ref rb, .int (nI rs), .ref sm, .ref hh, .ref ps, .ref pb]))]) hP hD [0] [1] rfl rfl (by decide) (by decide) hk1 hFc hP1 hD1
  generalize H1 = H at hP hS ⊢
  have hP : va_P (dC, dI) vwCl [(ra, .inl (cI, 256, .inl fA)), (xo, .inr (2, [.int (nI k), .ref ra, .ref rb, .int (nI rs), .ref sm, .ref hh, .ref ps, .ref pb]))] H := hP
  have hD : va_D A [(ra, .inl (cI, 256, .inl fA)), (xo, .inr (2, [.int (nI k), .ref ra, .ref rb, .int (nI rs), .ref sm, .ref hh, .ref ps, .ref pb]))] := hD
  clear hPc hDc hKc hFc hP1 hD1 hk1 hz1 hvm ht
  clear hw
  refine lv_aload_n hx hb dX3_value_5 rfl (lv_at hl 0 rfl) ?_
  refine lv_iload_n hx hb dX3_value_6 rfl (lv_at hl 2 rfl) ?_
  have hPc := hP.sub (ws' := [(xo, .inr (2, [.int (nI k), .ref ra, .ref rb, .int (nI rs), .ref sm, .ref hh, .ref ps, .ref pb]))]) [1] rfl
  have hDc := hD.sub (ws' := [(xo, .inr (2, [.int (nI k), .ref ra, .ref rb, .int (nI rs), .ref sm, .ref hh, .ref ps, .ref pb]))]) [1] (by decide) rfl
  have hKc := hK.sub (tys' := []) [] rfl
  have hFc := va_free (wc := [(xo, .inr (2, [.int (nI k), .ref ra, .ref rb, .int (nI rs), .ref sm, .ref hh, .ref ps, .ref pb]))]) hD hS hA [1] rfl
  refine va_callv (va_runV (As := [.int (nI j)]) (rest := []) ⟨hx, hb, hml, hown, hts⟩ (c_X3_requirePlace_ok l dC dI xo ra rb sm hh ps pb k rs j H.size (by omega) (by omega) (by omega)) (cwV 1 hts gX3_value_X3_requirePlace rfl rfl rfl (by decide +kernel) ⟨Nat.le_of_ble_eq_true rfl, Nat.le_of_ble_eq_true rfl⟩) ⟨fun a U g mk q => by obtain ⟨q0, q1, qP, qK, qD⟩ := q; exact ⟨q0, q1, qP, va_K.moved (u := U) (U := U.calling g mk a) (Vm.Alike.refl U.vm) qK, qD⟩, va_recv hKc hPc (ci := 2) (q0 := 0) rfl rfl, fun U hU hW => ⟨rfl, by rw [hU], by rw [hU]; exact hPc, va_K.moved hW.alike hKc, hDc.weaken (fun _ _ _ _ => trivial)⟩⟩ rfl rfl hl.1 rfl (lv_room (Nat.le_of_ble_eq_true rfl)) dX3_value_7 ⟨Nat.le_of_ble_eq_true rfl, Nat.le_of_ble_eq_true rfl⟩) hS (fun q _ h => hFc q h) hFc (fun u9 t9 H1 locs ht hvm hw hB hz1 hk1 hS => ?_)
  obtain ⟨hP1, hD1⟩ := hB
  rw [ht] at hP1
  try dsimp only at hw
  obtain ⟨hP, hD⟩ := va_join (wr := [(ra, .inl (cI, 256, .inl fA))]) (w1 := [(xo, .inr (2, [.int (nI k), .ref ra, .ref rb, .int (nI rs), .ref sm, .ref hh, .ref ps, .ref pb]))]) hP hD [1] [0] rfl rfl (by decide) (by decide) hk1 hFc hP1 hD1
  generalize H1 = H at hP hS ⊢
  have hP : va_P (dC, dI) vwCl [(ra, .inl (cI, 256, .inl fA)), (xo, .inr (2, [.int (nI k), .ref ra, .ref rb, .int (nI rs), .ref sm, .ref hh, .ref ps, .ref pb]))] H := hP
  have hD : va_D A [(ra, .inl (cI, 256, .inl fA)), (xo, .inr (2, [.int (nI k), .ref ra, .ref rb, .int (nI rs), .ref sm, .ref hh, .ref ps, .ref pb]))] := hD
  clear hPc hDc hKc hFc hP1 hD1 hk1 hz1 hvm ht
  clear hw
  refine lv_aload_n hx hb dX3_value_10 rfl (lv_at hl 0 rfl) ?_
  refine lv_aload_n hx hb dX3_value_11 rfl (lv_at hl 0 rfl) ?_
  refine lv_iload_n hx hb dX3_value_12 rfl (lv_at hl 1 rfl) ?_
  refine lv_iload_n hx hb dX3_value_13 rfl (lv_at hl 2 rfl) ?_
  have hPc := hP.sub (ws' := [(xo, .inr (2, [.int (nI k), .ref ra, .ref rb, .int (nI rs), .ref sm, .ref hh, .ref ps, .ref pb]))]) [1] rfl
  have hDc := hD.sub (ws' := [(xo, .inr (2, [.int (nI k), .ref ra, .ref rb, .int (nI rs), .ref sm, .ref hh, .ref ps, .ref pb]))]) [1] (by decide) rfl
  have hKc := hK.sub (tys' := []) [] rfl
  have hFc := va_free (wc := [(xo, .inr (2, [.int (nI k), .ref ra, .ref rb, .int (nI rs), .ref sm, .ref hh, .ref ps, .ref pb]))]) hD hS hA [1] rfl
  refine va_calll (va_runV (As := [.int (nI q), .int (nI j)]) (rest := [.ref xo]) ⟨hx, hb, hml, hown, hts⟩ (c_X3_rootToThe l dC dI xo ra rb sm hh ps pb k rs q (nI j) H.size tP sa (by omega) (by omega) (by omega)) (cwV 2 hts gX3_value_X3_rootToThe rfl rfl rfl (by decide +kernel) ⟨Nat.le_of_ble_eq_true rfl, Nat.le_of_ble_eq_true rfl⟩) ⟨fun a U g mk q => by obtain ⟨q0, q1, qP, qK, qD, qM⟩ := q; exact ⟨q0, q1, qP, va_K.moved (u := U) (U := U.calling g mk a) (Vm.Alike.refl U.vm) qK, qD, amb_same (U := U) (U' := U.calling g mk a) rfl rfl qM⟩, va_recv hKc hPc (ci := 2) (q0 := 0) rfl rfl, fun U hU hW => ⟨rfl, by rw [hU], by rw [hU]; exact hPc, va_K.moved hW.alike hKc, hDc.weaken (fun _ _ _ _ => trivial), amb_pass hM hS hFc hW hU⟩⟩ rfl rfl hl.1 rfl (lv_room (Nat.le_of_ble_eq_true rfl)) dX3_value_14 ⟨Nat.le_of_ble_eq_true rfl, Nat.le_of_ble_eq_true rfl⟩) hS (fun q _ h => hFc q h) hFc (fun r9 u9 t9 H1 locs ht hvm hw hB hz1 hk1 hS => ?_)
  obtain ⟨hP1, hD1⟩ := hB
  rw [ht] at hP1
  try dsimp only at hw
  obtain ⟨hP, hD⟩ := va_join (wr := [(ra, .inl (cI, 256, .inl fA))]) (w1 := [(xo, .inr (2, [.int (nI k), .ref ra, .ref rb, .int (nI rs), .ref sm, .ref hh, .ref ps, .ref pb]))]) hP hD [1] [0] rfl rfl (by decide) (by decide) hk1 hFc hP1 hD1
  generalize H1 = H at hP hS ⊢
  have hP : va_P (dC, dI) vwCl [(ra, .inl (cI, 256, .inl fA)), (xo, .inr (2, [.int (nI k), .ref ra, .ref rb, .int (nI rs), .ref sm, .ref hh, .ref ps, .ref pb]))] H := hP
  have hD : va_D A [(ra, .inl (cI, 256, .inl fA)), (xo, .inr (2, [.int (nI k), .ref ra, .ref rb, .int (nI rs), .ref sm, .ref hh, .ref ps, .ref pb]))] := hD
  clear hPc hDc hKc hFc hP1 hD1 hk1 hz1 hvm ht
  subst hw
  refine va_gets hx hb hM.1.1 hS hown (hts (.fieldLink RX3 99 "ThreePrimes" "PRIMES" "[I") (by decide +kernel)) (fun _ h9 => h9) dX3_value_17 ?_
  refine lv_iload_n hx hb dX3_value_20 rfl (lv_at hl 1 rfl) ?_
  refine va_ti (v := .int (nI (prN q))) hx hb hM.1.2.1 hS (vp_in_nI (by omega) (by omega)) (by rw [nI_clamp (by omega)]; rfl) dX3_value_21 ?_
  have hPc := hP.sub (ws' := [(xo, .inr (2, [.int (nI k), .ref ra, .ref rb, .int (nI rs), .ref sm, .ref hh, .ref ps, .ref pb])), (ra, .inl (cI, 256, .inl fA))]) [1, 0] rfl
  have hDc := hD.sub (ws' := [(xo, .inr (2, [.int (nI k), .ref ra, .ref rb, .int (nI rs), .ref sm, .ref hh, .ref ps, .ref pb])), (ra, .inl (cI, 256, .inl fA))]) [1, 0] (by decide) rfl
  have hKc := hK.sub (tys' := [(cI, .int)]) [0] rfl
  have hFc := va_free (wc := [(xo, .inr (2, [.int (nI k), .ref ra, .ref rb, .int (nI rs), .ref sm, .ref hh, .ref ps, .ref pb])), (ra, .inl (cI, 256, .inl fA))]) hD hS hA [1, 0] rfl
  refine va_calll (va_runV (As := [.long (lI (frW k (prN q) ^ ex32 (nI j) k % (prN q : Int))), .int (nI (prN q))]) (rest := []) ⟨hx, hb, hml, hown, hts⟩ (c_X3_rowAAt l dC dI xo ra rb sm hh ps pb k rs cI fA (frW k (prN q) ^ ex32 (nI j) k % (prN q : Int)) (prN q) H.size (by omega) (by omega) (by omega) (by omega) (by omega) (by omega)) (cwV 2 hts gX3_value_X3_rowAAt rfl rfl rfl (by decide +kernel) ⟨Nat.le_of_ble_eq_true rfl, Nat.le_of_ble_eq_true rfl⟩) ⟨fun a U g mk q => by obtain ⟨q0, q1, qP, qK, qD⟩ := q; exact ⟨q0, q1, qP, va_K.moved (u := U) (U := U.calling g mk a) (Vm.Alike.refl U.vm) qK, qD⟩, va_recv hKc hPc (ci := 2) (q0 := 0) rfl rfl, fun U hU hW => ⟨rfl, by rw [hU], by rw [hU]; exact hPc, va_K.moved hW.alike hKc, hDc.weaken (fun _ _ _ _ => trivial)⟩⟩ rfl rfl hl.1 rfl (lv_room (Nat.le_of_ble_eq_true rfl)) dX3_value_22 ⟨Nat.le_of_ble_eq_true rfl, Nat.le_of_ble_eq_true rfl⟩) hS (fun q _ h => hFc q h) hFc (fun r9 u9 t9 H1 locs ht hvm hw hB hz1 hk1 hS => ?_)
  obtain ⟨hP1, hD1⟩ := hB
  rw [ht] at hP1
  try dsimp only at hw
  obtain ⟨hP, hD⟩ := va_join (wr := []) (w1 := [(xo, .inr (2, [.int (nI k), .ref ra, .ref rb, .int (nI rs), .ref sm, .ref hh, .ref ps, .ref pb])), (ra, .inl (cI, 256, .inl fA))]) hP hD [1, 0] [] rfl rfl (by decide) (by decide) hk1 hFc hP1 hD1
  generalize H1 = H at hP hS ⊢
  have hP : va_P (dC, dI) vwCl [(xo, .inr (2, [.int (nI k), .ref ra, .ref rb, .int (nI rs), .ref sm, .ref hh, .ref ps, .ref pb])), (ra, .inl (cI, 256, .inl fA))] H := hP
  have hD : va_D A [(xo, .inr (2, [.int (nI k), .ref ra, .ref rb, .int (nI rs), .ref sm, .ref hh, .ref ps, .ref pb])), (ra, .inl (cI, 256, .inl fA))] := hD
  clear hPc hDc hKc hFc hP1 hD1 hk1 hz1 hvm ht
  subst hw
  refine lv_l2i (v := iI (hz fA (frW k (prN q) ^ ex32 (nI j) k % (prN q : Int)) 0 (2 ^ k) % ((prN q : Nat) : Int))) hx hb dX3_value_25 (lI_i (hz fA (frW k (prN q) ^ ex32 (nI j) k % (prN q : Int)) 0 (2 ^ k) % ((prN q : Nat) : Int))) ?_
  have hP9 : va_P (dC, dI) vwCl [(xo, .inr (2, [.int (nI k), .ref ra, .ref rb, .int (nI rs), .ref sm, .ref hh, .ref ps, .ref pb])), (ra, .inl (cI, 256, .inl fA))] H := hP.sub [0, 1] rfl
  have hD9 : va_D A [(xo, .inr (2, [.int (nI k), .ref ra, .ref rb, .int (nI rs), .ref sm, .ref hh, .ref ps, .ref pb])), (ra, .inl (cI, 256, .inl fA))] := hD.sub [0, 1] (by decide) rfl
  exact W.iret (v := iI (hz fA (frW k (prN q) ^ ex32 (nI j) k % (prN q : Int)) 0 (2 ^ k) % ((prN q : Nat) : Int))) hx hb hr (fun t ht hW => ⟨⟨iI (hz fA (frW k (prN q) ^ ex32 (nI j) k % (prN q : Int)) 0 (2 ^ k) % ((prN q : Nat) : Int)), (), rfl, rfl, by rw [ht]; exact hP9, hD9⟩, hS.F ht⟩) hS.2.2 dX3_value_26

abbrev q_X3_back_ok (dC : Nat → ClassId) (dI : Nat → Nat → Nat) (xo ra rb sm hh ps pb k rs : Nat) (cI : ClassId) (fA : Nat → Int32) (q j : Nat) (A : Nat → Prop) : Array Value → State → Outcome → State → Prop := va_Qi (fun (r : Int32) (u : Unit) => r = iI ((hz fA (frW k (prN q) ^ ex32 (-nI j) k % (prN q : Int)) 0 (2 ^ k) % (prN q : Int)) * (((2 ^ k : Nat) : Int) ^ (prN q - 2) % (prN q : Int)) % (prN q : Int))) (fun u t => va_P (dC, dI) vwCl [(xo, .inr (2, [.int (nI k), .ref ra, .ref rb, .int (nI rs), .ref sm, .ref hh, .ref ps, .ref pb])), (ra, .inl (cI, 256, .inl fA))] t.heap ∧ va_D A [(xo, .inr (2, [.int (nI k), .ref ra, .ref rb, .int (nI rs), .ref sm, .ref hh, .ref ps, .ref pb])), (ra, .inl (cI, 256, .inl fA))]) A
set_option maxHeartbeats 4000000 in
set_option maxRecDepth 100000 in
theorem c_X3_back_ok (l : Launch) (dC : Nat → ClassId) (dI : Nat → Nat → Nat) (xo ra rb sm hh ps pb k rs : Nat) (cI : ClassId) (fA : Nat → Int32) (q j : Nat) (sz : Nat) (tP : Nat) (sa : Nat → Nat) (zk1 : 1 ≤ k) (zk : k ≤ 8) (zq : q < 3) (zj : j < 2 ^ k) : Met l yX3_back wsX3_back ({ frames := 3, cells := 0, slots := 0, locals := 72 }) (va_Pc [.ref xo, .int (nI q), .int (nI j)] (fun U => U.heap.size = sz ∧ va_P (dC, dI) vwCl [(xo, .inr (2, [.int (nI k), .ref ra, .ref rb, .int (nI rs), .ref sm, .ref hh, .ref ps, .ref pb])), (ra, .inl (cI, 256, .inl fA))] U.heap ∧ va_K (dC, dI) vwCl [(cI, .int)] U ∧ va_D (fun _ => True) [(xo, .inr (2, [.int (nI k), .ref ra, .ref rb, .int (nI rs), .ref sm, .ref hh, .ref ps, .ref pb])), (ra, .inl (cI, 256, .inl fA))] ∧ amb tP sa (va_A [(xo, .inr (2, [.int (nI k), .ref ra, .ref rb, .int (nI rs), .ref sm, .ref hh, .ref ps, .ref pb])), (ra, .inl (cI, 256, .inl fA))] sz) U U.heap)) (q_X3_back_ok dC dI xo ra rb sm hh ps pb k rs cI fA q j (va_A [(xo, .inr (2, [.int (nI k), .ref ra, .ref rb, .int (nI rs), .ref sm, .ref hh, .ref ps, .ref pb])), (ra, .inl (cI, 256, .inl fA))] sz)) 0 0 (va_A [(xo, .inr (2, [.int (nI k), .ref ra, .ref rb, .int (nI rs), .ref sm, .ref hh, .ref ps, .ref pb])), (ra, .inl (cI, 256, .inl fA))] sz) := by
  refine Met.ofW (cc := cX3_back) (maxL := 4) (ret := (some .int)) (by decide) rfl ?_
  intro p e s m args below meth c s₁ B hml hv
  obtain ⟨rfl, hsz, hP, hK, hD0, hM⟩ := hv
  have hx := B.exec
  have hb := B.bytes
  have hr := B.returns
  have hts := atoms_spec (ws := wsX3_back) B.pre
  have hown : s.vm.findClass RX3 = some m.cls := findClass_of_methodNamed B.named
  have hlocks := B.notSynchronized
  subst hsz
  have hD := hD0.self (sz := s.heap.size)
  generalize hAe : va_A [(xo, .inr (2, [.int (nI k), .ref ra, .ref rb, .int (nI rs), .ref sm, .ref hh, .ref ps, .ref pb])), (ra, .inl (cI, 256, .inl fA))] s.heap.size = A at hD hM ⊢
  have hA : ∀ q : Nat, s.heap.size ≤ q → A q := fun q h => by rw [← hAe]; exact Or.inr h
  have hS : va_S A s.heap s.heap [] := va_S.rf
  have hP : va_P (dC, dI) vwCl [(xo, .inr (2, [.int (nI k), .ref ra, .ref rb, .int (nI rs), .ref sm, .ref hh, .ref ps, .ref pb])), (ra, .inl (cI, 256, .inl fA))] s.heap := hP
  have hl := lv_entry (([.ref xo, .int (nI q), .int (nI j)] : List Value)) (n := 4) (Nat.le_of_ble_eq_true rfl)
  rw [lg_entry_eq]
  generalize (lg_sl (([.ref xo, .int (nI q), .int (nI j)] : List Value)) ++ List.replicate (4 - (lg_sl (([.ref xo, .int (nI q), .int (nI j)] : List Value))).length) Slot.unset).toArray = ls at hl ⊢
  have hl : lv_has ls 4 [(0, .ref xo), (1, .int (nI q)), (2, .int (nI j))] := hl
  obtain ⟨H, hHe⟩ : ∃ H : Heap, H = s.heap := ⟨_, rfl⟩
  rw [← hHe] at hP
  have hS : va_S A s.heap H [] := by rw [hHe]; exact hS
  obtain ⟨locs, hlo⟩ : ∃ L : List Loc, L = [] := ⟨_, rfl⟩
  rw [← hlo] at hS ⊢
  rw [← hHe]
  have hpk := pw8 zk
  have hpr := prN_b q
  have hxr := emod_rng (frW k (prN q) ^ ex32 (-nI j) k) (show (0 : Int) < prN q by omega)
  have hh1 := emod_rng (hz fA (frW k (prN q) ^ ex32 (-nI j) k % (prN q : Int)) 0 (2 ^ k)) (show (0 : Int) < prN q by omega)
  have hh2 := emod_rng (((2 ^ k : Nat) : Int) ^ (prN q - 2)) (show (0 : Int) < prN q by omega)
  have hh3 := mul_b30 hh1.1 hh1.2 hh2.1 hh2.2 (by omega)
  refine lv_aload_n hx hb dX3_back_0 rfl (lv_at hl 0 rfl) ?_
  refine lv_iload_n hx hb dX3_back_1 rfl (lv_at hl 1 rfl) ?_
  have hPc := hP.sub (ws' := [(xo, .inr (2, [.int (nI k), .ref ra, .ref rb, .int (nI rs), .ref sm, .ref hh, .ref ps, .ref pb]))]) [0] rfl
  have hDc := hD.sub (ws' := [(xo, .inr (2, [.int (nI k), .ref ra, .ref rb, .int (nI rs), .ref sm, .ref hh, .ref ps, .ref pb]))]) [0] (by decide) rfl
  have hKc := hK.sub (tys' := []) [] rfl
  have hFc := va_free (wc := [(xo, .inr (2, [.int (nI k), .ref ra, .ref rb, .int (nI rs), .ref sm, .ref hh, .ref ps, .ref pb]))]) hD hS hA [0] rfl
  refine va_callv (va_runV (As := [.int (nI q)]) (rest := []) ⟨hx, hb, hml, hown, hts⟩ (c_X3_requirePrime_ok l dC dI xo ra rb sm hh ps pb k rs q H.size tP sa (by omega)) (cwV 1 hts gX3_back_X3_requirePrime rfl rfl rfl (by decide +kernel) ⟨Nat.le_of_ble_eq_true rfl, Nat.le_of_ble_eq_true rfl⟩) ⟨fun a U g mk q => by obtain ⟨q0, q1, qP, qK, qD, qM⟩ := q; exact ⟨q0, q1, qP, va_K.moved (u := U) (U := U.calling g mk a) (Vm.Alike.refl U.vm) qK, qD, amb_same (U := U) (U' := U.calling g mk a) rfl rfl qM⟩, va_recv hKc hPc (ci := 2) (q0 := 0) rfl rfl, fun U hU hW => ⟨rfl, by rw [hU], by rw [hU]; exact hPc, va_K.moved hW.alike hKc, hDc.weaken (fun _ _ _ _ => trivial), amb_pass hM hS hFc hW hU⟩⟩ rfl rfl hl.1 rfl (lv_room (Nat.le_of_ble_eq_true rfl)) dX3_back_2 ⟨Nat.le_of_ble_eq_true rfl, Nat.le_of_ble_eq_true rfl⟩) hS (fun q _ h => hFc q h) hFc (fun u9 t9 H1 locs ht hvm hw hB hz1 hk1 hS => ?_)
  obtain ⟨hP1, hD1⟩ := hB
  rw [ht] at hP1
  try dsimp only at hw
  obtain ⟨hP, hD⟩ := va_join (wr := [(ra, .inl (cI, 256, .inl fA))]) (w1 := [(xo, .inr (2, [.int (nI k), .ref ra, .ref rb, .int (nI rs), .ref sm, .ref hh, .ref ps, .ref pb]))]) hP hD [0] [1] rfl rfl (by decide) (by decide) hk1 hFc hP1 hD1
  generalize H1 = H at hP hS ⊢
  have hP : va_P (dC, dI) vwCl [(ra, .inl (cI, 256, .inl fA)), (xo, .inr (2, [.int (nI k), .ref ra, .ref rb, .int (nI rs), .ref sm, .ref hh, .ref ps, .ref pb]))] H := hP
  have hD : va_D A [(ra, .inl (cI, 256, .inl fA)), (xo, .inr (2, [.int (nI k), .ref ra, .ref rb, .int (nI rs), .ref sm, .ref hh, .ref ps, .ref pb]))] := hD
  clear hPc hDc hKc hFc hP1 hD1 hk1 hz1 hvm ht
  clear hw
  refine lv_aload_n hx hb dX3_back_5 rfl (lv_at hl 0 rfl) ?_
  refine lv_iload_n hx hb dX3_back_6 rfl (lv_at hl 2 rfl) ?_
  have hPc := hP.sub (ws' := [(xo, .inr (2, [.int (nI k), .ref ra, .ref rb, .int (nI rs), .ref sm, .ref hh, .ref ps, .ref pb]))]) [1] rfl
  have hDc := hD.sub (ws' := [(xo, .inr (2, [.int (nI k), .ref ra, .ref rb, .int (nI rs), .ref sm, .ref hh, .ref ps, .ref pb]))]) [1] (by decide) rfl
  have hKc := hK.sub (tys' := []) [] rfl
  have hFc := va_free (wc := [(xo, .inr (2, [.int (nI k), .ref ra, .ref rb, .int (nI rs), .ref sm, .ref hh, .ref ps, .ref pb]))]) hD hS hA [1] rfl
  refine va_callv (va_runV (As := [.int (nI j)]) (rest := []) ⟨hx, hb, hml, hown, hts⟩ (c_X3_requirePlace_ok l dC dI xo ra rb sm hh ps pb k rs j H.size (by omega) (by omega) (by omega)) (cwV 1 hts gX3_back_X3_requirePlace rfl rfl rfl (by decide +kernel) ⟨Nat.le_of_ble_eq_true rfl, Nat.le_of_ble_eq_true rfl⟩) ⟨fun a U g mk q => by obtain ⟨q0, q1, qP, qK, qD⟩ := q; exact ⟨q0, q1, qP, va_K.moved (u := U) (U := U.calling g mk a) (Vm.Alike.refl U.vm) qK, qD⟩, va_recv hKc hPc (ci := 2) (q0 := 0) rfl rfl, fun U hU hW => ⟨rfl, by rw [hU], by rw [hU]; exact hPc, va_K.moved hW.alike hKc, hDc.weaken (fun _ _ _ _ => trivial)⟩⟩ rfl rfl hl.1 rfl (lv_room (Nat.le_of_ble_eq_true rfl)) dX3_back_7 ⟨Nat.le_of_ble_eq_true rfl, Nat.le_of_ble_eq_true rfl⟩) hS (fun q _ h => hFc q h) hFc (fun u9 t9 H1 locs ht hvm hw hB hz1 hk1 hS => ?_)
  obtain ⟨hP1, hD1⟩ := hB
  rw [ht] at hP1
  try dsimp only at hw
  obtain ⟨hP, hD⟩ := va_join (wr := [(ra, .inl (cI, 256, .inl fA))]) (w1 := [(xo, .inr (2, [.int (nI k), .ref ra, .ref rb, .int (nI rs), .ref sm, .ref hh, .ref ps, .ref pb]))]) hP hD [1] [0] rfl rfl (by decide) (by decide) hk1 hFc hP1 hD1
  generalize H1 = H at hP hS ⊢
  have hP : va_P (dC, dI) vwCl [(ra, .inl (cI, 256, .inl fA)), (xo, .inr (2, [.int (nI k), .ref ra, .ref rb, .int (nI rs), .ref sm, .ref hh, .ref ps, .ref pb]))] H := hP
  have hD : va_D A [(ra, .inl (cI, 256, .inl fA)), (xo, .inr (2, [.int (nI k), .ref ra, .ref rb, .int (nI rs), .ref sm, .ref hh, .ref ps, .ref pb]))] := hD
  clear hPc hDc hKc hFc hP1 hD1 hk1 hz1 hvm ht
  clear hw
  refine va_gets hx hb hM.1.1 hS hown (hts (.fieldLink RX3 99 "ThreePrimes" "PRIMES" "[I") (by decide +kernel)) (fun _ h9 => h9) dX3_back_10 ?_
  refine lv_iload_n hx hb dX3_back_13 rfl (lv_at hl 1 rfl) ?_
  refine va_ti (v := .int (nI (prN q))) hx hb hM.1.2.1 hS (vp_in_nI (by omega) (by omega)) (by rw [nI_clamp (by omega)]; rfl) dX3_back_14 ?_
  refine lv_istore_n (lv' := [(3, .int (nI (prN q))), (0, .ref xo), (1, .int (nI q)), (2, .int (nI j))]) hx hb dX3_back_15 rfl hl (by decide) rfl (fun ls hl => ?_)
  refine lv_aload_n hx hb dX3_back_16 rfl (lv_at hl 1 rfl) ?_
  refine lv_aload_n hx hb dX3_back_17 rfl (lv_at hl 1 rfl) ?_
  refine lv_iload_n hx hb dX3_back_18 rfl (lv_at hl 2 rfl) ?_
  refine lv_iload_n hx hb dX3_back_19 rfl (lv_at hl 3 rfl) ?_
  refine lv_ineg hx hb dX3_back_20 ?_
  have hPc := hP.sub (ws' := [(xo, .inr (2, [.int (nI k), .ref ra, .ref rb, .int (nI rs), .ref sm, .ref hh, .ref ps, .ref pb]))]) [1] rfl
  have hDc := hD.sub (ws' := [(xo, .inr (2, [.int (nI k), .ref ra, .ref rb, .int (nI rs), .ref sm, .ref hh, .ref ps, .ref pb]))]) [1] (by decide) rfl
  have hKc := hK.sub (tys' := []) [] rfl
  have hFc := va_free (wc := [(xo, .inr (2, [.int (nI k), .ref ra, .ref rb, .int (nI rs), .ref sm, .ref hh, .ref ps, .ref pb]))]) hD hS hA [1] rfl
  refine va_calll (va_runV (As := [.int (nI q), .int (-(nI j))]) (rest := [.ref xo]) ⟨hx, hb, hml, hown, hts⟩ (c_X3_rootToThe l dC dI xo ra rb sm hh ps pb k rs q (-(nI j)) H.size tP sa (by omega) (by omega) (by omega)) (cwV 2 hts gX3_back_X3_rootToThe rfl rfl rfl (by decide +kernel) ⟨Nat.le_of_ble_eq_true rfl, Nat.le_of_ble_eq_true rfl⟩) ⟨fun a U g mk q => by obtain ⟨q0, q1, qP, qK, qD, qM⟩ := q; exact ⟨q0, q1, qP, va_K.moved (u := U) (U := U.calling g mk a) (Vm.Alike.refl U.vm) qK, qD, amb_same (U := U) (U' := U.calling g mk a) rfl rfl qM⟩, va_recv hKc hPc (ci := 2) (q0 := 0) rfl rfl, fun U hU hW => ⟨rfl, by rw [hU], by rw [hU]; exact hPc, va_K.moved hW.alike hKc, hDc.weaken (fun _ _ _ _ => trivial), amb_pass hM hS hFc hW hU⟩⟩ rfl rfl hl.1 rfl (lv_room (Nat.le_of_ble_eq_true rfl)) dX3_back_21 ⟨Nat.le_of_ble_eq_true rfl, Nat.le_of_ble_eq_true rfl⟩) hS (fun q _ h => hFc q h) hFc (fun r9 u9 t9 H1 locs ht hvm hw hB hz1 hk1 hS => ?_)
  obtain ⟨hP1, hD1⟩ := hB
  rw [ht] at hP1
  try dsimp only at hw
  obtain ⟨hP, hD⟩ := va_join (wr := [(ra, .inl (cI, 256, .inl fA))]) (w1 := [(xo, .inr (2, [.int (nI k), .ref ra, .ref rb, .int (nI rs), .ref sm, .ref hh, .ref ps, .ref pb]))]) hP hD [1] [0] rfl rfl (by decide) (by decide) hk1 hFc hP1 hD1
  generalize H1 = H at hP hS ⊢
  have hP : va_P (dC, dI) vwCl [(ra, .inl (cI, 256, .inl fA)), (xo, .inr (2, [.int (nI k), .ref ra, .ref rb, .int (nI rs), .ref sm, .ref hh, .ref ps, .ref pb]))] H := hP
  have hD : va_D A [(ra, .inl (cI, 256, .inl fA)), (xo, .inr (2, [.int (nI k), .ref ra, .ref rb, .int (nI rs), .ref sm, .ref hh, .ref ps, .ref pb]))] := hD
  clear hPc hDc hKc hFc hP1 hD1 hk1 hz1 hvm ht
  subst hw
  refine lv_iload_n hx hb dX3_back_24 rfl (lv_at hl 0 rfl) ?_
  have hPc := hP.sub (ws' := [(xo, .inr (2, [.int (nI k), .ref ra, .ref rb, .int (nI rs), .ref sm, .ref hh, .ref ps, .ref pb])), (ra, .inl (cI, 256, .inl fA))]) [1, 0] rfl
  have hDc := hD.sub (ws' := [(xo, .inr (2, [.int (nI k), .ref ra, .ref rb, .int (nI rs), .ref sm, .ref hh, .ref ps, .ref pb])), (ra, .inl (cI, 256, .inl fA))]) [1, 0] (by decide) rfl
  have hKc := hK.sub (tys' := [(cI, .int)]) [0] rfl
  have hFc := va_free (wc := [(xo, .inr (2, [.int (nI k), .ref ra, .ref rb, .int (nI rs), .ref sm, .ref hh, .ref ps, .ref pb])), (ra, .inl (cI, 256, .inl fA))]) hD hS hA [1, 0] rfl
  refine va_calll (va_runV (As := [.long (lI (frW k (prN q) ^ ex32 (-(nI j)) k % (prN q : Int))), .int (nI (prN q))]) (rest := []) ⟨hx, hb, hml, hown, hts⟩ (c_X3_rowAAt l dC dI xo ra rb sm hh ps pb k rs cI fA (frW k (prN q) ^ ex32 (-(nI j)) k % (prN q : Int)) (prN q) H.size (by omega) (by omega) (by omega) (by omega) (by omega) (by omega)) (cwV 2 hts gX3_back_X3_rowAAt rfl rfl rfl (by decide +kernel) ⟨Nat.le_of_ble_eq_true rfl, Nat.le_of_ble_eq_true rfl⟩) ⟨fun a U g mk q => by obtain ⟨q0, q1, qP, qK, qD⟩ := q; exact ⟨q0, q1, qP, va_K.moved (u := U) (U := U.calling g mk a) (Vm.Alike.refl U.vm) qK, qD⟩, va_recv hKc hPc (ci := 2) (q0 := 0) rfl rfl, fun U hU hW => ⟨rfl, by rw [hU], by rw [hU]; exact hPc, va_K.moved hW.alike hKc, hDc.weaken (fun _ _ _ _ => trivial)⟩⟩ rfl rfl hl.1 rfl (lv_room (Nat.le_of_ble_eq_true rfl)) dX3_back_25 ⟨Nat.le_of_ble_eq_true rfl, Nat.le_of_ble_eq_true rfl⟩) hS (fun q _ h => hFc q h) hFc (fun r9 u9 t9 H1 locs ht hvm hw hB hz1 hk1 hS => ?_)
  obtain ⟨hP1, hD1⟩ := hB
  rw [ht] at hP1
  try dsimp only at hw
  obtain ⟨hP, hD⟩ := va_join (wr := []) (w1 := [(xo, .inr (2, [.int (nI k), .ref ra, .ref rb, .int (nI rs), .ref sm, .ref hh, .ref ps, .ref pb])), (ra, .inl (cI, 256, .inl fA))]) hP hD [1, 0] [] rfl rfl (by decide) (by decide) hk1 hFc hP1 hD1
  generalize H1 = H at hP hS ⊢
  have hP : va_P (dC, dI) vwCl [(xo, .inr (2, [.int (nI k), .ref ra, .ref rb, .int (nI rs), .ref sm, .ref hh, .ref ps, .ref pb])), (ra, .inl (cI, 256, .inl fA))] H := hP
  have hD : va_D A [(xo, .inr (2, [.int (nI k), .ref ra, .ref rb, .int (nI rs), .ref sm, .ref hh, .ref ps, .ref pb])), (ra, .inl (cI, 256, .inl fA))] := hD
  clear hPc hDc hKc hFc hP1 hD1 hk1 hz1 hvm ht
  subst hw
  refine lv_aload_n hx hb dX3_back_28 rfl (lv_at hl 1 rfl) ?_
  have hPc := hP.sub (ws' := [(xo, .inr (2, [.int (nI k), .ref ra, .ref rb, .int (nI rs), .ref sm, .ref hh, .ref ps, .ref pb]))]) [0] rfl
  have hDc := hD.sub (ws' := [(xo, .inr (2, [.int (nI k), .ref ra, .ref rb, .int (nI rs), .ref sm, .ref hh, .ref ps, .ref pb]))]) [0] (by decide) rfl
  have hKc := hK.sub (tys' := []) [] rfl
  have hFc := va_free (wc := [(xo, .inr (2, [.int (nI k), .ref ra, .ref rb, .int (nI rs), .ref sm, .ref hh, .ref ps, .ref pb]))]) hD hS hA [0] rfl
  refine va_calli (va_runV (As := []) (rest := [.long (lI (hz fA (frW k (prN q) ^ ex32 (-(nI j)) k % (prN q : Int)) 0 (2 ^ k) % ((prN q : Nat) : Int)))]) ⟨hx, hb, hml, hown, hts⟩ (c_X3_places l dC dI xo ra rb sm hh ps pb k rs H.size (by omega) (by omega)) (cwV 0 hts gX3_back_X3_places rfl rfl rfl (by decide +kernel) ⟨Nat.le_of_ble_eq_true rfl, Nat.le_of_ble_eq_true rfl⟩) ⟨fun a U g mk q => by obtain ⟨q0, q1, qP, qK, qD⟩ := q; exact ⟨q0, q1, qP, va_K.moved (u := U) (U := U.calling g mk a) (Vm.Alike.refl U.vm) qK, qD⟩, va_recv hKc hPc (ci := 2) (q0 := 0) rfl rfl, fun U hU hW => ⟨rfl, by rw [hU], by rw [hU]; exact hPc, va_K.moved hW.alike hKc, hDc.weaken (fun _ _ _ _ => trivial)⟩⟩ rfl rfl hl.1 rfl (lv_room (Nat.le_of_ble_eq_true rfl)) dX3_back_29 ⟨Nat.le_of_ble_eq_true rfl, Nat.le_of_ble_eq_true rfl⟩) hS (fun q _ h => hFc q h) hFc (fun r9 u9 t9 H1 locs ht hvm hw hB hz1 hk1 hS => ?_)
  obtain ⟨hP1, hD1⟩ := hB
  rw [ht] at hP1
  try dsimp only at hw
  obtain ⟨hP, hD⟩ := va_join (wr := [(ra, .inl (cI, 256, .inl fA))]) (w1 := [(xo, .inr (2, [.int (nI k), .ref ra, .ref rb, .int (nI rs), .ref sm, .ref hh, .ref ps, .ref pb]))]) hP hD [0] [1] rfl rfl (by decide) (by decide) hk1 hFc hP1 hD1
  generalize H1 = H at hP hS ⊢
  have hP : va_P (dC, dI) vwCl [(ra, .inl (cI, 256, .inl fA)), (xo, .inr (2, [.int (nI k), .ref ra, .ref rb, .int (nI rs), .ref sm, .ref hh, .ref ps, .ref pb]))] H := hP
  have hD : va_D A [(ra, .inl (cI, 256, .inl fA)), (xo, .inr (2, [.int (nI k), .ref ra, .ref rb, .int (nI rs), .ref sm, .ref hh, .ref ps, .ref pb]))] := hD
  clear hPc hDc hKc hFc hP1 hD1 hk1 hz1 hvm ht
  subst hw
  refine lv_i2l (v := lI ((2 ^ k : Nat) : Int)) hx hb dX3_back_32 (nI_lI (by omega)) ?_
  refine lv_iload_n hx hb dX3_back_33 rfl (lv_at hl 0 rfl) ?_
  have hPc := hP.sub (ws' := []) [] rfl
  have hDc := hD.sub (ws' := []) [] (by decide) rfl
  have hKc := hK.sub (tys' := []) [] rfl
  have hFc := va_free (wc := []) hD hS hA [] rfl
  refine va_calll (va_runS (As := [.long (lI ((2 ^ k : Nat) : Int)), .int (nI (prN q))]) (rest := [.long (lI (hz fA (frW k (prN q) ^ ex32 (-(nI j)) k % (prN q : Int)) 0 (2 ^ k) % ((prN q : Nat) : Int)))]) ⟨hx, hb, hml, hown, hts⟩ (c_X1_inverse l dC dI ((2 ^ k : Nat) : Int) (prN q) H.size (by omega) (by omega) (by omega) (by omega)) (va_cwS 2 hts gX3_back_X1_inverse rfl rfl rfl (by decide +kernel) ⟨Nat.le_of_ble_eq_true rfl, Nat.le_of_ble_eq_true rfl⟩) ⟨fun a U g mk q => by obtain ⟨q0, q1, qP, qK, qD⟩ := q; exact ⟨q0, q1, qP, va_K.moved (u := U) (U := U.calling g mk a) (Vm.Alike.refl U.vm) qK, qD⟩, fun U hU hW => ⟨rfl, by rw [hU], by rw [hU]; exact hPc, va_K.moved hW.alike hKc, hDc.weaken (fun _ _ _ _ => trivial)⟩⟩ rfl rfl hl.1 rfl (lv_room (Nat.le_of_ble_eq_true rfl)) dX3_back_34 ⟨Nat.le_of_ble_eq_true rfl, Nat.le_of_ble_eq_true rfl⟩) hS (fun q _ h => hFc q h) hFc (fun r9 u9 t9 H1 locs ht hvm hw hB hz1 hk1 hS => ?_)
  obtain ⟨hP1, hD1⟩ := hB
  rw [ht] at hP1
  try dsimp only at hw
  obtain ⟨hP, hD⟩ := va_join (wr := [(ra, .inl (cI, 256, .inl fA)), (xo, .inr (2, [.int (nI k), .ref ra, .ref rb, .int (nI rs), .ref sm, .ref hh, .ref ps, .ref pb]))]) (w1 := []) hP hD [] [0, 1] rfl rfl (by decide) (by decide) hk1 hFc hP1 hD1
  generalize H1 = H at hP hS ⊢
  have hP : va_P (dC, dI) vwCl [(ra, .inl (cI, 256, .inl fA)), (xo, .inr (2, [.int (nI k), .ref ra, .ref rb, .int (nI rs), .ref sm, .ref hh, .ref ps, .ref pb]))] H := hP
  have hD : va_D A [(ra, .inl (cI, 256, .inl fA)), (xo, .inr (2, [.int (nI k), .ref ra, .ref rb, .int (nI rs), .ref sm, .ref hh, .ref ps, .ref pb]))] := hD
  clear hPc hDc hKc hFc hP1 hD1 hk1 hz1 hvm ht
  subst hw
  refine lv_lmul hx hb dX3_back_37 ?_
  refine W.eq (congrArg (fun z => F0 m _ ls (.long z :: _)) (show lI (hz fA (frW k (prN q) ^ ex32 (-(nI j)) k % (prN q : Int)) 0 (2 ^ k) % ((prN q : Nat) : Int)) * lI (((2 ^ k : Nat) : Int) ^ (prN q - 2) % ((prN q : Nat) : Int)) = lI ((hz fA (frW k (prN q) ^ ex32 (-(nI j)) k % (prN q : Int)) 0 (2 ^ k) % ((prN q : Nat) : Int)) * (((2 ^ k : Nat) : Int) ^ (prN q - 2) % ((prN q : Nat) : Int))) from lI_mul (hz fA (frW k (prN q) ^ ex32 (-(nI j)) k % (prN q : Int)) 0 (2 ^ k) % ((prN q : Nat) : Int)) (((2 ^ k : Nat) : Int) ^ (prN q - 2) % ((prN q : Nat) : Int)))) ?_
  refine lv_iload_n hx hb dX3_back_38 rfl (lv_at hl 0 rfl) ?_
  refine lv_i2l (v := lI ((prN q : Nat) : Int)) hx hb dX3_back_39 (nI_lI (by omega)) ?_
  refine lv_lrem hx hb dX3_back_40 (fun zq9 => absurd ((lI_eq (b := 0) (by omega) (by omega) (by omega) (by omega)).mp zq9) (by omega)) ?_
  refine W.eq (congrArg (fun z => F0 m _ ls (.long z :: _)) (show lI ((hz fA (frW k (prN q) ^ ex32 (-(nI j)) k % (prN q : Int)) 0 (2 ^ k) % ((prN q : Nat) : Int)) * (((2 ^ k : Nat) : Int) ^ (prN q - 2) % ((prN q : Nat) : Int))) - lI ((hz fA (frW k (prN q) ^ ex32 (-(nI j)) k % (prN q : Int)) 0 (2 ^ k) % ((prN q : Nat) : Int)) * (((2 ^ k : Nat) : Int) ^ (prN q - 2) % ((prN q : Nat) : Int))) / lI ((prN q : Nat) : Int) * lI ((prN q : Nat) : Int) = lI (((hz fA (frW k (prN q) ^ ex32 (-(nI j)) k % (prN q : Int)) 0 (2 ^ k) % ((prN q : Nat) : Int)) * (((2 ^ k : Nat) : Int) ^ (prN q - 2) % ((prN q : Nat) : Int))) % ((prN q : Nat) : Int)) from lI_rem0 (by omega) (by omega) (by omega) (by omega))) ?_
  refine lv_l2i (v := iI (((hz fA (frW k (prN q) ^ ex32 (-(nI j)) k % (prN q : Int)) 0 (2 ^ k) % ((prN q : Nat) : Int)) * (((2 ^ k : Nat) : Int) ^ (prN q - 2) % ((prN q : Nat) : Int))) % ((prN q : Nat) : Int))) hx hb dX3_back_41 (lI_i (((hz fA (frW k (prN q) ^ ex32 (-(nI j)) k % (prN q : Int)) 0 (2 ^ k) % ((prN q : Nat) : Int)) * (((2 ^ k : Nat) : Int) ^ (prN q - 2) % ((prN q : Nat) : Int))) % ((prN q : Nat) : Int))) ?_
  have hP9 : va_P (dC, dI) vwCl [(xo, .inr (2, [.int (nI k), .ref ra, .ref rb, .int (nI rs), .ref sm, .ref hh, .ref ps, .ref pb])), (ra, .inl (cI, 256, .inl fA))] H := hP.sub [1, 0] rfl
  have hD9 : va_D A [(xo, .inr (2, [.int (nI k), .ref ra, .ref rb, .int (nI rs), .ref sm, .ref hh, .ref ps, .ref pb])), (ra, .inl (cI, 256, .inl fA))] := hD.sub [1, 0] (by decide) rfl
  exact W.iret (v := iI (((hz fA (frW k (prN q) ^ ex32 (-(nI j)) k % (prN q : Int)) 0 (2 ^ k) % ((prN q : Nat) : Int)) * (((2 ^ k : Nat) : Int) ^ (prN q - 2) % ((prN q : Nat) : Int))) % ((prN q : Nat) : Int))) hx hb hr (fun t ht hW => ⟨⟨iI (((hz fA (frW k (prN q) ^ ex32 (-(nI j)) k % (prN q : Int)) 0 (2 ^ k) % ((prN q : Nat) : Int)) * (((2 ^ k : Nat) : Int) ^ (prN q - 2) % ((prN q : Nat) : Int))) % ((prN q : Nat) : Int)), (), rfl, rfl, by rw [ht]; exact hP9, hD9⟩, hS.F ht⟩) hS.2.2 dX3_back_42

abbrev q_X3_value_badP (dC : Nat → ClassId) (dI : Nat → Nat → Nat) (xo ra rb sm hh ps pb k rs : Nat) (i v : Int32) (A : Nat → Prop) : Array Value → State → Outcome → State → Prop := va_Qi (fun (r : Int32) (u : Unit) => False) (fun u t => va_P (dC, dI) vwCl [(xo, .inr (2, [.int (nI k), .ref ra, .ref rb, .int (nI rs), .ref sm, .ref hh, .ref ps, .ref pb]))] t.heap ∧ va_D A [(xo, .inr (2, [.int (nI k), .ref ra, .ref rb, .int (nI rs), .ref sm, .ref hh, .ref ps, .ref pb]))]) A
abbrev x_X3_value_badP (dC : Nat → ClassId) (dI : Nat → Nat → Nat) (xo ra rb sm hh ps pb k rs : Nat) (i v : Int32) (A : Nat → Prop) : String → State → State → Prop := vx_X (fun _ : Unit => True) (fun E _ t => (E = "java/lang/IllegalArgumentException") ∧ va_P (dC, dI) vwCl [(xo, .inr (2, [.int (nI k), .ref ra, .ref rb, .int (nI rs), .ref sm, .ref hh, .ref ps, .ref pb]))] t.heap ∧ va_D A [(xo, .inr (2, [.int (nI k), .ref ra, .ref rb, .int (nI rs), .ref sm, .ref hh, .ref ps, .ref pb]))]) A
set_option maxHeartbeats 4000000 in
set_option maxRecDepth 100000 in
theorem c_X3_value_badP (l : Launch) (dC : Nat → ClassId) (dI : Nat → Nat → Nat) (xo ra rb sm hh ps pb k rs : Nat) (i v : Int32) (sz : Nat) (hl9 : l.stackTraces = false) (tP : Nat) (sa : Nat → Nat) (hbad : i < 0 ∨ nI 3 ≤ i) : vx_Met l yX3_value wsX3_value ({ frames := 7, cells := 1, slots := 6, locals := 103 }) (va_Pc [.ref xo, .int i, .int v] (fun U => U.heap.size = sz ∧ va_P (dC, dI) vwCl [(xo, .inr (2, [.int (nI k), .ref ra, .ref rb, .int (nI rs), .ref sm, .ref hh, .ref ps, .ref pb]))] U.heap ∧ va_K (dC, dI) vwCl [] U ∧ va_D (fun _ => True) [(xo, .inr (2, [.int (nI k), .ref ra, .ref rb, .int (nI rs), .ref sm, .ref hh, .ref ps, .ref pb]))] ∧ amb tP sa (va_A [(xo, .inr (2, [.int (nI k), .ref ra, .ref rb, .int (nI rs), .ref sm, .ref hh, .ref ps, .ref pb]))] sz) U U.heap)) (q_X3_value_badP dC dI xo ra rb sm hh ps pb k rs i v (va_A [(xo, .inr (2, [.int (nI k), .ref ra, .ref rb, .int (nI rs), .ref sm, .ref hh, .ref ps, .ref pb]))] sz)) (x_X3_value_badP dC dI xo ra rb sm hh ps pb k rs i v (va_A [(xo, .inr (2, [.int (nI k), .ref ra, .ref rb, .int (nI rs), .ref sm, .ref hh, .ref ps, .ref pb]))] sz)) 1 6 (va_A [(xo, .inr (2, [.int (nI k), .ref ra, .ref rb, .int (nI rs), .ref sm, .ref hh, .ref ps, .ref pb]))] sz) := by
  refine vx_ofW (cc := cX3_value) (maxL := 3) (ret := (some .int)) (by decide) rfl ?_
  intro p e s m args below meth c s₁ B hml htab hv
  obtain ⟨rfl, hsz, hP, hK, hD0, hM⟩ := hv
  have hx := B.exec
  have hb := B.bytes
  have hr := B.returns
  have hts := atoms_spec (ws := wsX3_value) B.pre
  have hown : s.vm.findClass RX3 = some m.cls := findClass_of_methodNamed B.named
  have hlocks := B.notSynchronized
  subst hsz
  have hD := hD0.self (sz := s.heap.size)
  generalize hAe : va_A [(xo, .inr (2, [.int (nI k), .ref ra, .ref rb, .int (nI rs), .ref sm, .ref hh, .ref ps, .ref pb]))] s.heap.size = A at hD hM ⊢
  have hA : ∀ q : Nat, s.heap.size ≤ q → A q := fun q h => by rw [← hAe]; exact Or.inr h
  have hS : va_S A s.heap s.heap [] := va_S.rf
  have hP : va_P (dC, dI) vwCl [(xo, .inr (2, [.int (nI k), .ref ra, .ref rb, .int (nI rs), .ref sm, .ref hh, .ref ps, .ref pb]))] s.heap := hP
  have hl := lv_entry (([.ref xo, .int i, .int v] : List Value)) (n := 3) (Nat.le_of_ble_eq_true rfl)
  rw [lg_entry_eq]
  generalize (lg_sl (([.ref xo, .int i, .int v] : List Value)) ++ List.replicate (3 - (lg_sl (([.ref xo, .int i, .int v] : List Value))).length) Slot.unset).toArray = ls at hl ⊢
  have hl : lv_has ls 3 [(0, .ref xo), (1, .int i), (2, .int v)] := hl
  obtain ⟨H, hHe⟩ : ∃ H : Heap, H = s.heap := ⟨_, rfl⟩
  rw [← hHe] at hP
  have hS : va_S A s.heap H [] := by rw [hHe]; exact hS
  obtain ⟨locs, hlo⟩ : ∃ L : List Loc, L = [] := ⟨_, rfl⟩
  rw [← hlo] at hS ⊢
  rw [← hHe]
  refine lv_aload_n hx hb dX3_value_0 rfl (lv_at hl 0 rfl) ?_
  refine lv_iload_n hx hb dX3_value_1 rfl (lv_at hl 1 rfl) ?_
  have hPc := hP.sub (ws' := [(xo, .inr (2, [.int (nI k), .ref ra, .ref rb, .int (nI rs), .ref sm, .ref hh, .ref ps, .ref pb]))]) [0] rfl
  have hDc := hD.sub (ws' := [(xo, .inr (2, [.int (nI k), .ref ra, .ref rb, .int (nI rs), .ref sm, .ref hh, .ref ps, .ref pb]))]) [0] (by decide) rfl
  have hKc := hK.sub (tys' := []) [] rfl
  have hFc := va_free (wc := [(xo, .inr (2, [.int (nI k), .ref ra, .ref rb, .int (nI rs), .ref sm, .ref hh, .ref ps, .ref pb]))]) hD hS hA [0] rfl
  refine vx_callv (vx_runV (As := [.int i]) (rest := []) ⟨hx, hb, hml, hown, hts⟩ (c_X3_requirePrime_bad l dC dI xo ra rb sm hh ps pb k rs i H.size hl9 tP sa hbad) (cwV 1 hts gX3_value_X3_requirePrime rfl rfl rfl (by decide +kernel) ⟨Nat.le_of_ble_eq_true rfl, Nat.le_of_ble_eq_true rfl⟩) ⟨fun a U g mk q => by obtain ⟨q0, q1, qP, qK, qD, qM⟩ := q; exact ⟨q0, q1, qP, va_K.moved (u := U) (U := U.calling g mk a) (Vm.Alike.refl U.vm) qK, qD, amb_same (U := U) (U' := U.calling g mk a) rfl rfl qM⟩, va_recv hKc hPc (ci := 2) (q0 := 0) rfl rfl, fun U hU hW => ⟨rfl, by rw [hU], by rw [hU]; exact hPc, va_K.moved hW.alike hKc, hDc.weaken (fun _ _ _ _ => trivial), amb_pass hM hS hFc hW hU⟩⟩ rfl rfl hl.1 rfl (lv_room (Nat.le_of_ble_eq_true rfl)) dX3_value_2 ⟨Nat.le_of_ble_eq_true rfl, Nat.le_of_ble_eq_true rfl⟩) hS (fun q _ h => hFc q h) hFc (fun q _ h => hFc q h) (fun E9 ce9 q9 u9 t9 H1 locs ht hvm hw hB hz1 hk1 hS hce hcv hcl => ?_) (fun u9 t9 H1 locs ht hvm hw hB hz1 hk1 hS => ?_)
  · obtain ⟨hxp, hP1, hD1⟩ := hB
    rw [ht] at hP1
    obtain ⟨hP, hD⟩ := va_join (wr := []) (w1 := [(xo, .inr (2, [.int (nI k), .ref ra, .ref rb, .int (nI rs), .ref sm, .ref hh, .ref ps, .ref pb]))]) hP hD [0] [] rfl rfl (by decide) (by decide) hk1 hFc hP1 hD1
    have hP9 : va_P (dC, dI) vwCl [(xo, .inr (2, [.int (nI k), .ref ra, .ref rb, .int (nI rs), .ref sm, .ref hh, .ref ps, .ref pb]))] H1 := hP.sub [0] rfl
    have hD9 : va_D A [(xo, .inr (2, [.int (nI k), .ref ra, .ref rb, .int (nI rs), .ref sm, .ref hh, .ref ps, .ref pb]))] := hD.sub [0] (by decide) rfl
    exact vx_out (E := E9) (fun x h => (htab x h).elim) hlocks hce hcv hcl (fun t ht9 hal => ⟨(), trivial, ⟨hxp, by rw [ht9]; exact hP9, hD9⟩, hS.F ht9⟩) hS.2.2 (Nat.le_of_ble_eq_true rfl) (Nat.le_of_ble_eq_true rfl)
  exact hw.elim

abbrev q_X3_value_badI (dC : Nat → ClassId) (dI : Nat → Nat → Nat) (xo ra rb sm hh ps pb k rs : Nat) (q : Nat) (i : Int32) (A : Nat → Prop) : Array Value → State → Outcome → State → Prop := va_Qi (fun (r : Int32) (u : Unit) => False) (fun u t => va_P (dC, dI) vwCl [(xo, .inr (2, [.int (nI k), .ref ra, .ref rb, .int (nI rs), .ref sm, .ref hh, .ref ps, .ref pb]))] t.heap ∧ va_D A [(xo, .inr (2, [.int (nI k), .ref ra, .ref rb, .int (nI rs), .ref sm, .ref hh, .ref ps, .ref pb]))]) A
abbrev x_X3_value_badI (dC : Nat → ClassId) (dI : Nat → Nat → Nat) (xo ra rb sm hh ps pb k rs : Nat) (q : Nat) (i : Int32) (A : Nat → Prop) : String → State → State → Prop := vx_X (fun _ : Unit => True) (fun E _ t => (E = "java/lang/IndexOutOfBoundsException") ∧ va_P (dC, dI) vwCl [(xo, .inr (2, [.int (nI k), .ref ra, .ref rb, .int (nI rs), .ref sm, .ref hh, .ref ps, .ref pb]))] t.heap ∧ va_D A [(xo, .inr (2, [.int (nI k), .ref ra, .ref rb, .int (nI rs), .ref sm, .ref hh, .ref ps, .ref pb]))]) A
set_option maxHeartbeats 4000000 in
set_option maxRecDepth 100000 in
theorem c_X3_value_badI (l : Launch) (dC : Nat → ClassId) (dI : Nat → Nat → Nat) (xo ra rb sm hh ps pb k rs : Nat) (q : Nat) (i : Int32) (sz : Nat) (hl9 : l.stackTraces = false) (tP : Nat) (sa : Nat → Nat) (zk1 : 1 ≤ k) (zk : k ≤ 8) (zq : q < 3) (hbad : i < 0 ∨ nI (2 ^ k) ≤ i) : vx_Met l yX3_value wsX3_value ({ frames := 7, cells := 1, slots := 6, locals := 103 }) (va_Pc [.ref xo, .int (nI q), .int i] (fun U => U.heap.size = sz ∧ va_P (dC, dI) vwCl [(xo, .inr (2, [.int (nI k), .ref ra, .ref rb, .int (nI rs), .ref sm, .ref hh, .ref ps, .ref pb]))] U.heap ∧ va_K (dC, dI) vwCl [] U ∧ va_D (fun _ => True) [(xo, .inr (2, [.int (nI k), .ref ra, .ref rb, .int (nI rs), .ref sm, .ref hh, .ref ps, .ref pb]))] ∧ amb tP sa (va_A [(xo, .inr (2, [.int (nI k), .ref ra, .ref rb, .int (nI rs), .ref sm, .ref hh, .ref ps, .ref pb]))] sz) U U.heap)) (q_X3_value_badI dC dI xo ra rb sm hh ps pb k rs q i (va_A [(xo, .inr (2, [.int (nI k), .ref ra, .ref rb, .int (nI rs), .ref sm, .ref hh, .ref ps, .ref pb]))] sz)) (x_X3_value_badI dC dI xo ra rb sm hh ps pb k rs q i (va_A [(xo, .inr (2, [.int (nI k), .ref ra, .ref rb, .int (nI rs), .ref sm, .ref hh, .ref ps, .ref pb]))] sz)) 1 6 (va_A [(xo, .inr (2, [.int (nI k), .ref ra, .ref rb, .int (nI rs), .ref sm, .ref hh, .ref ps, .ref pb]))] sz) := by
  refine vx_ofW (cc := cX3_value) (maxL := 3) (ret := (some .int)) (by decide) rfl ?_
  intro p e s m args below meth c s₁ B hml htab hv
  obtain ⟨rfl, hsz, hP, hK, hD0, hM⟩ := hv
  have hx := B.exec
  have hb := B.bytes
  have hr := B.returns
  have hts := atoms_spec (ws := wsX3_value) B.pre
  have hown : s.vm.findClass RX3 = some m.cls := findClass_of_methodNamed B.named
  have hlocks := B.notSynchronized
  subst hsz
  have hD := hD0.self (sz := s.heap.size)
  generalize hAe : va_A [(xo, .inr (2, [.int (nI k), .ref ra, .ref rb, .int (nI rs), .ref sm, .ref hh, .ref ps, .ref pb]))] s.heap.size = A at hD hM ⊢
  have hA : ∀ q : Nat, s.heap.size ≤ q → A q := fun q h => by rw [← hAe]; exact Or.inr h
  have hS : va_S A s.heap s.heap [] := va_S.rf
  have hP : va_P (dC, dI) vwCl [(xo, .inr (2, [.int (nI k), .ref ra, .ref rb, .int (nI rs), .ref sm, .ref hh, .ref ps, .ref pb]))] s.heap := hP
  have hl := lv_entry (([.ref xo, .int (nI q), .int i] : List Value)) (n := 3) (Nat.le_of_ble_eq_true rfl)
  rw [lg_entry_eq]
  generalize (lg_sl (([.ref xo, .int (nI q), .int i] : List Value)) ++ List.replicate (3 - (lg_sl (([.ref xo, .int (nI q), .int i] : List Value))).length) Slot.unset).toArray = ls at hl ⊢
  have hl : lv_has ls 3 [(0, .ref xo), (1, .int (nI q)), (2, .int i)] := hl
  obtain ⟨H, hHe⟩ : ∃ H : Heap, H = s.heap := ⟨_, rfl⟩
  rw [← hHe] at hP
  have hS : va_S A s.heap H [] := by rw [hHe]; exact hS
  obtain ⟨locs, hlo⟩ : ∃ L : List Loc, L = [] := ⟨_, rfl⟩
  rw [← hlo] at hS ⊢
  rw [← hHe]
  have hpk := pw8 zk
  refine lv_aload_n hx hb dX3_value_0 rfl (lv_at hl 0 rfl) ?_
  refine lv_iload_n hx hb dX3_value_1 rfl (lv_at hl 1 rfl) ?_
  have hPc := hP.sub (ws' := [(xo, .inr (2, [.int (nI k), .ref ra, .ref rb, .int (nI rs), .ref sm, .ref hh, .ref ps, .ref pb]))]) [0] rfl
  have hDc := hD.sub (ws' := [(xo, .inr (2, [.int (nI k), .ref ra, .ref rb, .int (nI rs), .ref sm, .ref hh, .ref ps, .ref pb]))]) [0] (by decide) rfl
  have hKc := hK.sub (tys' := []) [] rfl
  have hFc := va_free (wc := [(xo, .inr (2, [.int (nI k), .ref ra, .ref rb, .int (nI rs), .ref sm, .ref hh, .ref ps, .ref pb]))]) hD hS hA [0] rfl
  refine va_callv (va_runV (As := [.int (nI q)]) (rest := []) ⟨hx, hb, hml, hown, hts⟩ (c_X3_requirePrime_ok l dC dI xo ra rb sm hh ps pb k rs q H.size tP sa (by omega)) (cwV 1 hts gX3_value_X3_requirePrime rfl rfl rfl (by decide +kernel) ⟨Nat.le_of_ble_eq_true rfl, Nat.le_of_ble_eq_true rfl⟩) ⟨fun a U g mk q => by obtain ⟨q0, q1, qP, qK, qD, qM⟩ := q; exact ⟨q0, q1, qP, va_K.moved (u := U) (U := U.calling g mk a) (Vm.Alike.refl U.vm) qK, qD, amb_same (U := U) (U' := U.calling g mk a) rfl rfl qM⟩, va_recv hKc hPc (ci := 2) (q0 := 0) rfl rfl, fun U hU hW => ⟨rfl, by rw [hU], by rw [hU]; exact hPc, va_K.moved hW.alike hKc, hDc.weaken (fun _ _ _ _ => trivial), amb_pass hM hS hFc hW hU⟩⟩ rfl rfl hl.1 rfl (lv_room (Nat.le_of_ble_eq_true rfl)) dX3_value_2 ⟨Nat.le_of_ble_eq_true rfl, Nat.le_of_ble_eq_true rfl⟩) hS (fun q _ h => hFc q h) hFc (fun u9 t9 H1 locs ht hvm hw hB hz1 hk1 hS => ?_)
  obtain ⟨hP1, hD1⟩ := hB
  rw [ht] at hP1
  try dsimp only at hw
  obtain ⟨hP, hD⟩ := va_join (wr := []) (w1 := [(xo, .inr (2, [.int (nI k), .ref ra, .ref rb, .int (nI rs), .ref sm, .ref hh, .ref ps, .ref pb]))]) hP hD [0] [] rfl rfl (by decide) (by decide) hk1 hFc hP1 hD1
  generalize H1 = H at hP hS ⊢
  have hP : va_P (dC, dI) vwCl [(xo, .inr (2, [.int (nI k), .ref ra, .ref rb, .int (nI rs), .ref sm, .ref hh, .ref ps, .ref pb]))] H := hP
  have hD : va_D A [(xo, .inr (2, [.int (nI k), .ref ra, .ref rb, .int (nI rs), .ref sm, .ref hh, .ref ps, .ref pb]))] := hD
  clear hPc hDc hKc hFc hP1 hD1 hk1 hz1 hvm ht
  clear hw
  refine lv_aload_n hx hb dX3_value_5 rfl (lv_at hl 0 rfl) ?_
  refine lv_iload_n hx hb dX3_value_6 rfl (lv_at hl 2 rfl) ?_
  have hPc := hP.sub (ws' := [(xo, .inr (2, [.int (nI k), .ref ra, .ref rb, .int (nI rs), .ref sm, .ref hh, .ref ps, .ref pb]))]) [0] rfl
  have hDc := hD.sub (ws' := [(xo, .inr (2, [.int (nI k), .ref ra, .ref rb, .int (nI rs), .ref sm, .ref hh, .ref ps, .ref pb]))]) [0] (by decide) rfl
  have hKc := hK.sub (tys' := []) [] rfl
  have hFc := va_free (wc := [(xo, .inr (2, [.int (nI k), .ref ra, .ref rb, .int (nI rs), .ref sm, .ref hh, .ref ps, .ref pb]))]) hD hS hA [0] rfl
  refine vx_callv (vx_runV (As := [.int i]) (rest := []) ⟨hx, hb, hml, hown, hts⟩ (c_X3_requirePlace_bad l dC dI xo ra rb sm hh ps pb k rs i H.size hl9 tP sa (by omega) (by omega) hbad) (cwV 1 hts gX3_value_X3_requirePlace rfl rfl rfl (by decide +kernel) ⟨Nat.le_of_ble_eq_true rfl, Nat.le_of_ble_eq_true rfl⟩) ⟨fun a U g mk q => by obtain ⟨q0, q1, qP, qK, qD, qM⟩ := q; exact ⟨q0, q1, qP, va_K.moved (u := U) (U := U.calling g mk a) (Vm.Alike.refl U.vm) qK, qD, amb_same (U := U) (U' := U.calling g mk a) rfl rfl qM⟩, va_recv hKc hPc (ci := 2) (q0 := 0) rfl rfl, fun U hU hW => ⟨rfl, by rw [hU], by rw [hU]; exact hPc, va_K.moved hW.alike hKc, hDc.weaken (fun _ _ _ _ => trivial), amb_pass hM hS hFc hW hU⟩⟩ rfl rfl hl.1 rfl (lv_room (Nat.le_of_ble_eq_true rfl)) dX3_value_7 ⟨Nat.le_of_ble_eq_true rfl, Nat.le_of_ble_eq_true rfl⟩) hS (fun q _ h => hFc q h) hFc (fun q _ h => hFc q h) (fun E9 ce9 q9 u9 t9 H1 locs ht hvm hw hB hz1 hk1 hS hce hcv hcl => ?_) (fun u9 t9 H1 locs ht hvm hw hB hz1 hk1 hS => ?_)
  · obtain ⟨hxp, hP1, hD1⟩ := hB
    rw [ht] at hP1
    obtain ⟨hP, hD⟩ := va_join (wr := []) (w1 := [(xo, .inr (2, [.int (nI k), .ref ra, .ref rb, .int (nI rs), .ref sm, .ref hh, .ref ps, .ref pb]))]) hP hD [0] [] rfl rfl (by decide) (by decide) hk1 hFc hP1 hD1
    have hP9 : va_P (dC, dI) vwCl [(xo, .inr (2, [.int (nI k), .ref ra, .ref rb, .int (nI rs), .ref sm, .ref hh, .ref ps, .ref pb]))] H1 := hP.sub [0] rfl
    have hD9 : va_D A [(xo, .inr (2, [.int (nI k), .ref ra, .ref rb, .int (nI rs), .ref sm, .ref hh, .ref ps, .ref pb]))] := hD.sub [0] (by decide) rfl
    exact vx_out (E := E9) (fun x h => (htab x h).elim) hlocks hce hcv hcl (fun t ht9 hal => ⟨(), trivial, ⟨hxp, by rw [ht9]; exact hP9, hD9⟩, hS.F ht9⟩) hS.2.2 (Nat.le_of_ble_eq_true rfl) (Nat.le_of_ble_eq_true rfl)
  exact hw.elim

abbrev q_X3_back_badP (dC : Nat → ClassId) (dI : Nat → Nat → Nat) (xo ra rb sm hh ps pb k rs : Nat) (i v : Int32) (A : Nat → Prop) : Array Value → State → Outcome → State → Prop := va_Qi (fun (r : Int32) (u : Unit) => False) (fun u t => va_P (dC, dI) vwCl [(xo, .inr (2, [.int (nI k), .ref ra, .ref rb, .int (nI rs), .ref sm, .ref hh, .ref ps, .ref pb]))] t.heap ∧ va_D A [(xo, .inr (2, [.int (nI k), .ref ra, .ref rb, .int (nI rs), .ref sm, .ref hh, .ref ps, .ref pb]))]) A
abbrev x_X3_back_badP (dC : Nat → ClassId) (dI : Nat → Nat → Nat) (xo ra rb sm hh ps pb k rs : Nat) (i v : Int32) (A : Nat → Prop) : String → State → State → Prop := vx_X (fun _ : Unit => True) (fun E _ t => (E = "java/lang/IllegalArgumentException") ∧ va_P (dC, dI) vwCl [(xo, .inr (2, [.int (nI k), .ref ra, .ref rb, .int (nI rs), .ref sm, .ref hh, .ref ps, .ref pb]))] t.heap ∧ va_D A [(xo, .inr (2, [.int (nI k), .ref ra, .ref rb, .int (nI rs), .ref sm, .ref hh, .ref ps, .ref pb]))]) A
set_option maxHeartbeats 4000000 in
set_option maxRecDepth 100000 in
theorem c_X3_back_badP (l : Launch) (dC : Nat → ClassId) (dI : Nat → Nat → Nat) (xo ra rb sm hh ps pb k rs : Nat) (i v : Int32) (sz : Nat) (hl9 : l.stackTraces = false) (tP : Nat) (sa : Nat → Nat) (hbad : i < 0 ∨ nI 3 ≤ i) : vx_Met l yX3_back wsX3_back ({ frames := 7, cells := 1, slots := 6, locals := 103 }) (va_Pc [.ref xo, .int i, .int v] (fun U => U.heap.size = sz ∧ va_P (dC, dI) vwCl [(xo, .inr (2, [.int (nI k), .ref ra, .ref rb, .int (nI rs), .ref sm, .ref hh, .ref ps, .ref pb]))] U.heap ∧ va_K (dC, dI) vwCl [] U ∧ va_D (fun _ => True) [(xo, .inr (2, [.int (nI k), .ref ra, .ref rb, .int (nI rs), .ref sm, .ref hh, .ref ps, .ref pb]))] ∧ amb tP sa (va_A [(xo, .inr (2, [.int (nI k), .ref ra, .ref rb, .int (nI rs), .ref sm, .ref hh, .ref ps, .ref pb]))] sz) U U.heap)) (q_X3_back_badP dC dI xo ra rb sm hh ps pb k rs i v (va_A [(xo, .inr (2, [.int (nI k), .ref ra, .ref rb, .int (nI rs), .ref sm, .ref hh, .ref ps, .ref pb]))] sz)) (x_X3_back_badP dC dI xo ra rb sm hh ps pb k rs i v (va_A [(xo, .inr (2, [.int (nI k), .ref ra, .ref rb, .int (nI rs), .ref sm, .ref hh, .ref ps, .ref pb]))] sz)) 1 6 (va_A [(xo, .inr (2, [.int (nI k), .ref ra, .ref rb, .int (nI rs), .ref sm, .ref hh, .ref ps, .ref pb]))] sz) := by
  refine vx_ofW (cc := cX3_back) (maxL := 4) (ret := (some .int)) (by decide) rfl ?_
  intro p e s m args below meth c s₁ B hml htab hv
  obtain ⟨rfl, hsz, hP, hK, hD0, hM⟩ := hv
  have hx := B.exec
  have hb := B.bytes
  have hr := B.returns
  have hts := atoms_spec (ws := wsX3_back) B.pre
  have hown : s.vm.findClass RX3 = some m.cls := findClass_of_methodNamed B.named
  have hlocks := B.notSynchronized
  subst hsz
  have hD := hD0.self (sz := s.heap.size)
  generalize hAe : va_A [(xo, .inr (2, [.int (nI k), .ref ra, .ref rb, .int (nI rs), .ref sm, .ref hh, .ref ps, .ref pb]))] s.heap.size = A at hD hM ⊢
  have hA : ∀ q : Nat, s.heap.size ≤ q → A q := fun q h => by rw [← hAe]; exact Or.inr h
  have hS : va_S A s.heap s.heap [] := va_S.rf
  have hP : va_P (dC, dI) vwCl [(xo, .inr (2, [.int (nI k), .ref ra, .ref rb, .int (nI rs), .ref sm, .ref hh, .ref ps, .ref pb]))] s.heap := hP
  have hl := lv_entry (([.ref xo, .int i, .int v] : List Value)) (n := 4) (Nat.le_of_ble_eq_true rfl)
  rw [lg_entry_eq]
  generalize (lg_sl (([.ref xo, .int i, .int v] : List Value)) ++ List.replicate (4 - (lg_sl (([.ref xo, .int i, .int v] : List Value))).length) Slot.unset).toArray = ls at hl ⊢
  have hl : lv_has ls 4 [(0, .ref xo), (1, .int i), (2, .int v)] := hl
  obtain ⟨H, hHe⟩ : ∃ H : Heap, H = s.heap := ⟨_, rfl⟩
  rw [← hHe] at hP
  have hS : va_S A s.heap H [] := by rw [hHe]; exact hS
  obtain ⟨locs, hlo⟩ : ∃ L : List Loc, L = [] := ⟨_, rfl⟩
  rw [← hlo] at hS ⊢
  rw [← hHe]
  refine lv_aload_n hx hb dX3_back_0 rfl (lv_at hl 0 rfl) ?_
  refine lv_iload_n hx hb dX3_back_1 rfl (lv_at hl 1 rfl) ?_
  have hPc := hP.sub (ws' := [(xo, .inr (2, [.int (nI k), .ref ra, .ref rb, .int (nI rs), .ref sm, .ref hh, .ref ps, .ref pb]))]) [0] rfl
  have hDc := hD.sub (ws' := [(xo, .inr (2, [.int (nI k), .ref ra, .ref rb, .int (nI rs), .ref sm, .ref hh, .ref ps, .ref pb]))]) [0] (by decide) rfl
  have hKc := hK.sub (tys' := []) [] rfl
  have hFc := va_free (wc := [(xo, .inr (2, [.int (nI k), .ref ra, .ref rb, .int (nI rs), .ref sm, .ref hh, .ref ps, .ref pb]))]) hD hS hA [0] rfl
  refine vx_callv (vx_runV (As := [.int i]) (rest := []) ⟨hx, hb, hml, hown, hts⟩ (c_X3_requirePrime_bad l dC dI xo ra rb sm hh ps pb k rs i H.size hl9 tP sa hbad) (cwV 1 hts gX3_back_X3_requirePrime rfl rfl rfl (by decide +kernel) ⟨Nat.le_of_ble_eq_true rfl, Nat.le_of_ble_eq_true rfl⟩) ⟨fun a U g mk q => by obtain ⟨q0, q1, qP, qK, qD, qM⟩ := q; exact ⟨q0, q1, qP, va_K.moved (u := U) (U := U.calling g mk a) (Vm.Alike.refl U.vm) qK, qD, amb_same (U := U) (U' := U.calling g mk a) rfl rfl qM⟩, va_recv hKc hPc (ci := 2) (q0 := 0) rfl rfl, fun U hU hW => ⟨rfl, by rw [hU], by rw [hU]; exact hPc, va_K.moved hW.alike hKc, hDc.weaken (fun _ _ _ _ => trivial), amb_pass hM hS hFc hW hU⟩⟩ rfl rfl hl.1 rfl (lv_room (Nat.le_of_ble_eq_true rfl)) dX3_back_2 ⟨Nat.le_of_ble_eq_true rfl, Nat.le_of_ble_eq_true rfl⟩) hS (fun q _ h => hFc q h) hFc (fun q _ h => hFc q h) (fun E9 ce9 q9 u9 t9 H1 locs ht hvm hw hB hz1 hk1 hS hce hcv hcl => ?_) (fun u9 t9 H1 locs ht hvm hw hB hz1 hk1 hS => ?_)
  · obtain ⟨hxp, hP1, hD1⟩ := hB
    rw [ht] at hP1
    obtain ⟨hP, hD⟩ := va_join (wr := []) (w1 := [(xo, .inr (2, [.int (nI k), .ref ra, .ref rb, .int (nI rs), .ref sm, .ref hh, .ref ps, .ref pb]))]) hP hD [0] [] rfl rfl (by decide) (by decide) hk1 hFc hP1 hD1
    have hP9 : va_P (dC, dI) vwCl [(xo, .inr (2, [.int (nI k), .ref ra, .ref rb, .int (nI rs), .ref sm, .ref hh, .ref ps, .ref pb]))] H1 := hP.sub [0] rfl
    have hD9 : va_D A [(xo, .inr (2, [.int (nI k), .ref ra, .ref rb, .int (nI rs), .ref sm, .ref hh, .ref ps, .ref pb]))] := hD.sub [0] (by decide) rfl
    exact vx_out (E := E9) (fun x h => (htab x h).elim) hlocks hce hcv hcl (fun t ht9 hal => ⟨(), trivial, ⟨hxp, by rw [ht9]; exact hP9, hD9⟩, hS.F ht9⟩) hS.2.2 (Nat.le_of_ble_eq_true rfl) (Nat.le_of_ble_eq_true rfl)
  exact hw.elim

abbrev q_X3_back_badI (dC : Nat → ClassId) (dI : Nat → Nat → Nat) (xo ra rb sm hh ps pb k rs : Nat) (q : Nat) (i : Int32) (A : Nat → Prop) : Array Value → State → Outcome → State → Prop := va_Qi (fun (r : Int32) (u : Unit) => False) (fun u t => va_P (dC, dI) vwCl [(xo, .inr (2, [.int (nI k), .ref ra, .ref rb, .int (nI rs), .ref sm, .ref hh, .ref ps, .ref pb]))] t.heap ∧ va_D A [(xo, .inr (2, [.int (nI k), .ref ra, .ref rb, .int (nI rs), .ref sm, .ref hh, .ref ps, .ref pb]))]) A
abbrev x_X3_back_badI (dC : Nat → ClassId) (dI : Nat → Nat → Nat) (xo ra rb sm hh ps pb k rs : Nat) (q : Nat) (i : Int32) (A : Nat → Prop) : String → State → State → Prop := vx_X (fun _ : Unit => True) (fun E _ t => (E = "java/lang/IndexOutOfBoundsException") ∧ va_P (dC, dI) vwCl [(xo, .inr (2, [.int (nI k), .ref ra, .ref rb, .int (nI rs), .ref sm, .ref hh, .ref ps, .ref pb]))] t.heap ∧ va_D A [(xo, .inr (2, [.int (nI k), .ref ra, .ref rb, .int (nI rs), .ref sm, .ref hh, .ref ps, .ref pb]))]) A
set_option maxHeartbeats 4000000 in
set_option maxRecDepth 100000 in
theorem c_X3_back_badI (l : Launch) (dC : Nat → ClassId) (dI : Nat → Nat → Nat) (xo ra rb sm hh ps pb k rs : Nat) (q : Nat) (i : Int32) (sz : Nat) (hl9 : l.stackTraces = false) (tP : Nat) (sa : Nat → Nat) (zk1 : 1 ≤ k) (zk : k ≤ 8) (zq : q < 3) (hbad : i < 0 ∨ nI (2 ^ k) ≤ i) : vx_Met l yX3_back wsX3_back ({ frames := 7, cells := 1, slots := 6, locals := 103 }) (va_Pc [.ref xo, .int (nI q), .int i] (fun U => U.heap.size = sz ∧ va_P (dC, dI) vwCl [(xo, .inr (2, [.int (nI k), .ref ra, .ref rb, .int (nI rs), .ref sm, .ref hh, .ref ps, .ref pb]))] U.heap ∧ va_K (dC, dI) vwCl [] U ∧ va_D (fun _ => True) [(xo, .inr (2, [.int (nI k), .ref ra, .ref rb, .int (nI rs), .ref sm, .ref hh, .ref ps, .ref pb]))] ∧ amb tP sa (va_A [(xo, .inr (2, [.int (nI k), .ref ra, .ref rb, .int (nI rs), .ref sm, .ref hh, .ref ps, .ref pb]))] sz) U U.heap)) (q_X3_back_badI dC dI xo ra rb sm hh ps pb k rs q i (va_A [(xo, .inr (2, [.int (nI k), .ref ra, .ref rb, .int (nI rs), .ref sm, .ref hh, .ref ps, .ref pb]))] sz)) (x_X3_back_badI dC dI xo ra rb sm hh ps pb k rs q i (va_A [(xo, .inr (2, [.int (nI k), .ref ra, .ref rb, .int (nI rs), .ref sm, .ref hh, .ref ps, .ref pb]))] sz)) 1 6 (va_A [(xo, .inr (2, [.int (nI k), .ref ra, .ref rb, .int (nI rs), .ref sm, .ref hh, .ref ps, .ref pb]))] sz) := by
  refine vx_ofW (cc := cX3_back) (maxL := 4) (ret := (some .int)) (by decide) rfl ?_
  intro p e s m args below meth c s₁ B hml htab hv
  obtain ⟨rfl, hsz, hP, hK, hD0, hM⟩ := hv
  have hx := B.exec
  have hb := B.bytes
  have hr := B.returns
  have hts := atoms_spec (ws := wsX3_back) B.pre
  have hown : s.vm.findClass RX3 = some m.cls := findClass_of_methodNamed B.named
  have hlocks := B.notSynchronized
  subst hsz
  have hD := hD0.self (sz := s.heap.size)
  generalize hAe : va_A [(xo, .inr (2, [.int (nI k), .ref ra, .ref rb, .int (nI rs), .ref sm, .ref hh, .ref ps, .ref pb]))] s.heap.size = A at hD hM ⊢
  have hA : ∀ q : Nat, s.heap.size ≤ q → A q := fun q h => by rw [← hAe]; exact Or.inr h
  have hS : va_S A s.heap s.heap [] := va_S.rf
  have hP : va_P (dC, dI) vwCl [(xo, .inr (2, [.int (nI k), .ref ra, .ref rb, .int (nI rs), .ref sm, .ref hh, .ref ps, .ref pb]))] s.heap := hP
  have hl := lv_entry (([.ref xo, .int (nI q), .int i] : List Value)) (n := 4) (Nat.le_of_ble_eq_true rfl)
  rw [lg_entry_eq]
  generalize (lg_sl (([.ref xo, .int (nI q), .int i] : List Value)) ++ List.replicate (4 - (lg_sl (([.ref xo, .int (nI q), .int i] : List Value))).length) Slot.unset).toArray = ls at hl ⊢
  have hl : lv_has ls 4 [(0, .ref xo), (1, .int (nI q)), (2, .int i)] := hl
  obtain ⟨H, hHe⟩ : ∃ H : Heap, H = s.heap := ⟨_, rfl⟩
  rw [← hHe] at hP
  have hS : va_S A s.heap H [] := by rw [hHe]; exact hS
  obtain ⟨locs, hlo⟩ : ∃ L : List Loc, L = [] := ⟨_, rfl⟩
  rw [← hlo] at hS ⊢
  rw [← hHe]
  have hpk := pw8 zk
  refine lv_aload_n hx hb dX3_back_0 rfl (lv_at hl 0 rfl) ?_
  refine lv_iload_n hx hb dX3_back_1 rfl (lv_at hl 1 rfl) ?_
  have hPc := hP.sub (ws' := [(xo, .inr (2, [.int (nI k), .ref ra, .ref rb, .int (nI rs), .ref sm, .ref hh, .ref ps, .ref pb]))]) [0] rfl
  have hDc := hD.sub (ws' := [(xo, .inr (2, [.int (nI k), .ref ra, .ref rb, .int (nI rs), .ref sm, .ref hh, .ref ps, .ref pb]))]) [0] (by decide) rfl
  have hKc := hK.sub (tys' := []) [] rfl
  have hFc := va_free (wc := [(xo, .inr (2, [.int (nI k), .ref ra, .ref rb, .int (nI rs), .ref sm, .ref hh, .ref ps, .ref pb]))]) hD hS hA [0] rfl
  refine va_callv (va_runV (As := [.int (nI q)]) (rest := []) ⟨hx, hb, hml, hown, hts⟩ (c_X3_requirePrime_ok l dC dI xo ra rb sm hh ps pb k rs q H.size tP sa (by omega)) (cwV 1 hts gX3_back_X3_requirePrime rfl rfl rfl (by decide +kernel) ⟨Nat.le_of_ble_eq_true rfl, Nat.le_of_ble_eq_true rfl⟩) ⟨fun a U g mk q => by obtain ⟨q0, q1, qP, qK, qD, qM⟩ := q; exact ⟨q0, q1, qP, va_K.moved (u := U) (U := U.calling g mk a) (Vm.Alike.refl U.vm) qK, qD, amb_same (U := U) (U' := U.calling g mk a) rfl rfl qM⟩, va_recv hKc hPc (ci := 2) (q0 := 0) rfl rfl, fun U hU hW => ⟨rfl, by rw [hU], by rw [hU]; exact hPc, va_K.moved hW.alike hKc, hDc.weaken (fun _ _ _ _ => trivial), amb_pass hM hS hFc hW hU⟩⟩ rfl rfl hl.1 rfl (lv_room (Nat.le_of_ble_eq_true rfl)) dX3_back_2 ⟨Nat.le_of_ble_eq_true rfl, Nat.le_of_ble_eq_true rfl⟩) hS (fun q _ h => hFc q h) hFc (fun u9 t9 H1 locs ht hvm hw hB hz1 hk1 hS => ?_)
  obtain ⟨hP1, hD1⟩ := hB
  rw [ht] at hP1
  try dsimp only at hw
  obtain ⟨hP, hD⟩ := va_join (wr := []) (w1 := [(xo, .inr (2, [.int (nI k), .ref ra, .ref rb, .int (nI rs), .ref sm, .ref hh, .ref ps, .ref pb]))]) hP hD [0] [] rfl rfl (by decide) (by decide) hk1 hFc hP1 hD1
  generalize H1 = H at hP hS ⊢
  have hP : va_P (dC, dI) vwCl [(xo, .inr (2, [.int (nI k), .ref ra, .ref rb, .int (nI rs), .ref sm, .ref hh, .ref ps, .ref pb]))] H := hP
  have hD : va_D A [(xo, .inr (2, [.int (nI k), .ref ra, .ref rb, .int (nI rs), .ref sm, .ref hh, .ref ps, .ref pb]))] := hD
  clear hPc hDc hKc hFc hP1 hD1 hk1 hz1 hvm ht
  clear hw
  refine lv_aload_n hx hb dX3_back_5 rfl (lv_at hl 0 rfl) ?_
  refine lv_iload_n hx hb dX3_back_6 rfl (lv_at hl 2 rfl) ?_
  have hPc := hP.sub (ws' := [(xo, .inr (2, [.int (nI k), .ref ra, .ref rb, .int (nI rs), .ref sm, .ref hh, .ref ps, .ref pb]))]) [0] rfl
  have hDc := hD.sub (ws' := [(xo, .inr (2, [.int (nI k), .ref ra, .ref rb, .int (nI rs), .ref sm, .ref hh, .ref ps, .ref pb]))]) [0] (by decide) rfl
  have hKc := hK.sub (tys' := []) [] rfl
  have hFc := va_free (wc := [(xo, .inr (2, [.int (nI k), .ref ra, .ref rb, .int (nI rs), .ref sm, .ref hh, .ref ps, .ref pb]))]) hD hS hA [0] rfl
  refine vx_callv (vx_runV (As := [.int i]) (rest := []) ⟨hx, hb, hml, hown, hts⟩ (c_X3_requirePlace_bad l dC dI xo ra rb sm hh ps pb k rs i H.size hl9 tP sa (by omega) (by omega) hbad) (cwV 1 hts gX3_back_X3_requirePlace rfl rfl rfl (by decide +kernel) ⟨Nat.le_of_ble_eq_true rfl, Nat.le_of_ble_eq_true rfl⟩) ⟨fun a U g mk q => by obtain ⟨q0, q1, qP, qK, qD, qM⟩ := q; exact ⟨q0, q1, qP, va_K.moved (u := U) (U := U.calling g mk a) (Vm.Alike.refl U.vm) qK, qD, amb_same (U := U) (U' := U.calling g mk a) rfl rfl qM⟩, va_recv hKc hPc (ci := 2) (q0 := 0) rfl rfl, fun U hU hW => ⟨rfl, by rw [hU], by rw [hU]; exact hPc, va_K.moved hW.alike hKc, hDc.weaken (fun _ _ _ _ => trivial), amb_pass hM hS hFc hW hU⟩⟩ rfl rfl hl.1 rfl (lv_room (Nat.le_of_ble_eq_true rfl)) dX3_back_7 ⟨Nat.le_of_ble_eq_true rfl, Nat.le_of_ble_eq_true rfl⟩) hS (fun q _ h => hFc q h) hFc (fun q _ h => hFc q h) (fun E9 ce9 q9 u9 t9 H1 locs ht hvm hw hB hz1 hk1 hS hce hcv hcl => ?_) (fun u9 t9 H1 locs ht hvm hw hB hz1 hk1 hS => ?_)
  · obtain ⟨hxp, hP1, hD1⟩ := hB
    rw [ht] at hP1
    obtain ⟨hP, hD⟩ := va_join (wr := []) (w1 := [(xo, .inr (2, [.int (nI k), .ref ra, .ref rb, .int (nI rs), .ref sm, .ref hh, .ref ps, .ref pb]))]) hP hD [0] [] rfl rfl (by decide) (by decide) hk1 hFc hP1 hD1
    have hP9 : va_P (dC, dI) vwCl [(xo, .inr (2, [.int (nI k), .ref ra, .ref rb, .int (nI rs), .ref sm, .ref hh, .ref ps, .ref pb]))] H1 := hP.sub [0] rfl
    have hD9 : va_D A [(xo, .inr (2, [.int (nI k), .ref ra, .ref rb, .int (nI rs), .ref sm, .ref hh, .ref ps, .ref pb]))] := hD.sub [0] (by decide) rfl
    exact vx_out (E := E9) (fun x h => (htab x h).elim) hlocks hce hcv hcl (fun t ht9 hal => ⟨(), trivial, ⟨hxp, by rw [ht9]; exact hP9, hD9⟩, hS.F ht9⟩) hS.2.2 (Nat.le_of_ble_eq_true rfl) (Nat.le_of_ble_eq_true rfl)
  exact hw.elim

abbrev q_X3_product_ok (dC : Nat → ClassId) (dI : Nat → Nat → Nat) (xo ra rb sm hh ps pb k rs : Nat) (q : Nat) (x y : Int32) (A : Nat → Prop) : Array Value → State → Outcome → State → Prop := va_Qi (fun (r : Int32) (u : Unit) => r = iI (x.toInt * y.toInt % (prN q : Int))) (fun u t => va_P (dC, dI) vwCl [(xo, .inr (2, [.int (nI k), .ref ra, .ref rb, .int (nI rs), .ref sm, .ref hh, .ref ps, .ref pb]))] t.heap ∧ va_D A [(xo, .inr (2, [.int (nI k), .ref ra, .ref rb, .int (nI rs), .ref sm, .ref hh, .ref ps, .ref pb]))]) A
set_option maxHeartbeats 4000000 in
set_option maxRecDepth 100000 in
theorem c_X3_product_ok (l : Launch) (dC : Nat → ClassId) (dI : Nat → Nat → Nat) (xo ra rb sm hh ps pb k rs : Nat) (q : Nat) (x y : Int32) (sz : Nat) (tP : Nat) (sa : Nat → Nat) (zq : q < 3) : Met l yX3_product wsX3_product ({ frames := 1, cells := 0, slots := 0, locals := 24 }) (va_Pc [.ref xo, .int (nI q), .int x, .int y] (fun U => U.heap.size = sz ∧ va_P (dC, dI) vwCl [(xo, .inr (2, [.int (nI k), .ref ra, .ref rb, .int (nI rs), .ref sm, .ref hh, .ref ps, .ref pb]))] U.heap ∧ va_K (dC, dI) vwCl [] U ∧ va_D (fun _ => True) [(xo, .inr (2, [.int (nI k), .ref ra, .ref rb, .int (nI rs), .ref sm, .ref hh, .ref ps, .ref pb]))] ∧ amb tP sa (va_A [(xo, .inr (2, [.int (nI k), .ref ra, .ref rb, .int (nI rs), .ref sm, .ref hh, .ref ps, .ref pb]))] sz) U U.heap)) (q_X3_product_ok dC dI xo ra rb sm hh ps pb k rs q x y (va_A [(xo, .inr (2, [.int (nI k), .ref ra, .ref rb, .int (nI rs), .ref sm, .ref hh, .ref ps, .ref pb]))] sz)) 0 0 (va_A [(xo, .inr (2, [.int (nI k), .ref ra, .ref rb, .int (nI rs), .ref sm, .ref hh, .ref ps, .ref pb]))] sz) := by
  refine Met.ofW (cc := cX3_product) (maxL := 4) (ret := (some .int)) (by decide) rfl ?_
  intro p e s m args below meth c s₁ B hml hv
  obtain ⟨rfl, hsz, hP, hK, hD0, hM⟩ := hv
  have hx := B.exec
  have hb := B.bytes
  have hr := B.returns
  have hts := atoms_spec (ws := wsX3_product) B.pre
  have hown : s.vm.findClass RX3 = some m.cls := findClass_of_methodNamed B.named
  have hlocks := B.notSynchronized
  subst hsz
  have hD := hD0.self (sz := s.heap.size)
  generalize hAe : va_A [(xo, .inr (2, [.int (nI k), .ref ra, .ref rb, .int (nI rs), .ref sm, .ref hh, .ref ps, .ref pb]))] s.heap.size = A at hD hM ⊢
  have hA : ∀ q : Nat, s.heap.size ≤ q → A q := fun q h => by rw [← hAe]; exact Or.inr h
  have hS : va_S A s.heap s.heap [] := va_S.rf
  have hP : va_P (dC, dI) vwCl [(xo, .inr (2, [.int (nI k), .ref ra, .ref rb, .int (nI rs), .ref sm, .ref hh, .ref ps, .ref pb]))] s.heap := hP
  have hl := lv_entry (([.ref xo, .int (nI q), .int x, .int y] : List Value)) (n := 4) (Nat.le_of_ble_eq_true rfl)
  rw [lg_entry_eq]
  generalize (lg_sl (([.ref xo, .int (nI q), .int x, .int y] : List Value)) ++ List.replicate (4 - (lg_sl (([.ref xo, .int (nI q), .int x, .int y] : List Value))).length) Slot.unset).toArray = ls at hl ⊢
  have hl : lv_has ls 4 [(0, .ref xo), (1, .int (nI q)), (2, .int x), (3, .int y)] := hl
  obtain ⟨H, hHe⟩ : ∃ H : Heap, H = s.heap := ⟨_, rfl⟩
  rw [← hHe] at hP
  have hS : va_S A s.heap H [] := by rw [hHe]; exact hS
  obtain ⟨locs, hlo⟩ : ∃ L : List Loc, L = [] := ⟨_, rfl⟩
  rw [← hlo] at hS ⊢
  rw [← hHe]
  have hpr := prN_b q
  have hxy := mul_i32 x y
  refine lv_aload_n hx hb dX3_product_0 rfl (lv_at hl 0 rfl) ?_
  refine lv_iload_n hx hb dX3_product_1 rfl (lv_at hl 1 rfl) ?_
  have hPc := hP.sub (ws' := [(xo, .inr (2, [.int (nI k), .ref ra, .ref rb, .int (nI rs), .ref sm, .ref hh, .ref ps, .ref pb]))]) [0] rfl
  have hDc := hD.sub (ws' := [(xo, .inr (2, [.int (nI k), .ref ra, .ref rb, .int (nI rs), .ref sm, .ref hh, .ref ps, .ref pb]))]) [0] (by decide) rfl
  have hKc := hK.sub (tys' := []) [] rfl
  have hFc := va_free (wc := [(xo, .inr (2, [.int (nI k), .ref ra, .ref rb, .int (nI rs), .ref sm, .ref hh, .ref ps, .ref pb]))]) hD hS hA [0] rfl
  refine va_callv (va_runV (As := [.int (nI q)]) (rest := []) ⟨hx, hb, hml, hown, hts⟩ (c_X3_requirePrime_ok l dC dI xo ra rb sm hh ps pb k rs q H.size tP sa (by omega)) (cwV 1 hts gX3_product_X3_requirePrime rfl rfl rfl (by decide +kernel) ⟨Nat.le_of_ble_eq_true rfl, Nat.le_of_ble_eq_true rfl⟩) ⟨fun a U g mk q => by obtain ⟨q0, q1, qP, qK, qD, qM⟩ := q; exact ⟨q0, q1, qP, va_K.moved (u := U) (U := U.calling g mk a) (Vm.Alike.refl U.vm) qK, qD, amb_same (U := U) (U' := U.calling g mk a) rfl rfl qM⟩, va_recv hKc hPc (ci := 2) (q0 := 0) rfl rfl, fun U hU hW => ⟨rfl, by rw [hU], by rw [hU]; exact hPc, va_K.moved hW.alike hKc, hDc.weaken (fun _ _ _ _ => trivial), amb_pass hM hS hFc hW hU⟩⟩ rfl rfl hl.1 rfl (lv_room (Nat.le_of_ble_eq_true rfl)) dX3_product_2 ⟨Nat.le_of_ble_eq_true rfl, Nat.le_of_ble_eq_true rfl⟩) hS (fun q _ h => hFc q h) hFc (fun u9 t9 H1 locs ht hvm hw hB hz1 hk1 hS => ?_)
  obtain ⟨hP1, hD1⟩ := hB
  rw [ht] at hP1
  try dsimp only at hw
  obtain ⟨hP, hD⟩ := va_join (wr := []) (w1 := [(xo, .inr (2, [.int (nI k), .ref ra, .ref rb, .int (nI rs), .ref sm, .ref hh, .ref ps, .ref pb]))]) hP hD [0] [] rfl rfl (by decide) (by decide) hk1 hFc hP1 hD1
  generalize H1 = H at hP hS ⊢
  have hP : va_P (dC, dI) vwCl [(xo, .inr (2, [.int (nI k), .ref ra, .ref rb, .int (nI rs), .ref sm, .ref hh, .ref ps, .ref pb]))] H := hP
  have hD : va_D A [(xo, .inr (2, [.int (nI k), .ref ra, .ref rb, .int (nI rs), .ref sm, .ref hh, .ref ps, .ref pb]))] := hD
  clear hPc hDc hKc hFc hP1 hD1 hk1 hz1 hvm ht
  clear hw
  refine lv_iload_n hx hb dX3_product_5 rfl (lv_at hl 2 rfl) ?_
  refine lv_i2l (v := lI x.toInt) hx hb dX3_product_6 (i2l_I x) ?_
  refine lv_iload_n hx hb dX3_product_7 rfl (lv_at hl 3 rfl) ?_
  refine lv_i2l (v := lI y.toInt) hx hb dX3_product_8 (i2l_I y) ?_
  refine lv_lmul hx hb dX3_product_9 ?_
  refine W.eq (congrArg (fun z => F0 m _ ls (.long z :: _)) (show lI x.toInt * lI y.toInt = lI (x.toInt * y.toInt) from lI_mul x.toInt y.toInt)) ?_
  refine va_gets hx hb hM.1.1 hS hown (hts (.fieldLink RX3 99 "ThreePrimes" "PRIMES" "[I") (by decide +kernel)) (fun _ h9 => h9) dX3_product_10 ?_
  refine lv_iload_n hx hb dX3_product_13 rfl (lv_at hl 1 rfl) ?_
  refine va_ti (v := .int (nI (prN q))) hx hb hM.1.2.1 hS (vp_in_nI (by omega) (by omega)) (by rw [nI_clamp (by omega)]; rfl) dX3_product_14 ?_
  have hPc := hP.sub (ws' := []) [] rfl
  have hDc := hD.sub (ws' := []) [] (by decide) rfl
  have hKc := hK.sub (tys' := []) [] rfl
  have hFc := va_free (wc := []) hD hS hA [] rfl
  refine va_calll (va_runS (As := [.long (lI (x.toInt * y.toInt)), .int (nI (prN q))]) (rest := []) ⟨hx, hb, hml, hown, hts⟩ (c_X1_remainder l dC dI (x.toInt * y.toInt) (prN q) H.size (by omega) (by omega) (by omega) (by omega)) (va_cwS 2 hts gX3_product_X1_remainder rfl rfl rfl (by decide +kernel) ⟨Nat.le_of_ble_eq_true rfl, Nat.le_of_ble_eq_true rfl⟩) ⟨fun a U g mk q => by obtain ⟨q0, q1, qP, qK, qD⟩ := q; exact ⟨q0, q1, qP, va_K.moved (u := U) (U := U.calling g mk a) (Vm.Alike.refl U.vm) qK, qD⟩, fun U hU hW => ⟨rfl, by rw [hU], by rw [hU]; exact hPc, va_K.moved hW.alike hKc, hDc.weaken (fun _ _ _ _ => trivial)⟩⟩ rfl rfl hl.1 rfl (lv_room (Nat.le_of_ble_eq_true rfl)) dX3_product_15 ⟨Nat.le_of_ble_eq_true rfl, Nat.le_of_ble_eq_true rfl⟩) hS (fun q _ h => hFc q h) hFc (fun r9 u9 t9 H1 locs ht hvm hw hB hz1 hk1 hS => ?_)
  obtain ⟨hP1, hD1⟩ := hB
  rw [ht] at hP1
  try dsimp only at hw
  obtain ⟨hP, hD⟩ := va_join (wr := [(xo, .inr (2, [.int (nI k), .ref ra, .ref rb, .int (nI rs), .ref sm, .ref hh, .ref ps, .ref pb]))]) (w1 := []) hP hD [] [0] rfl rfl (by decide) (by decide) hk1 hFc hP1 hD1
  generalize H1 = H at hP hS ⊢
  have hP : va_P (dC, dI) vwCl [(xo, .inr (2, [.int (nI k), .ref ra, .ref rb, .int (nI rs), .ref sm, .ref hh, .ref ps, .ref pb]))] H := hP
  have hD : va_D A [(xo, .inr (2, [.int (nI k), .ref ra, .ref rb, .int (nI rs), .ref sm, .ref hh, .ref ps, .ref pb]))] := hD
  clear hPc hDc hKc hFc hP1 hD1 hk1 hz1 hvm ht
  subst hw
  refine lv_l2i (v := iI ((x.toInt * y.toInt) % ((prN q : Nat) : Int))) hx hb dX3_product_18 (lI_i ((x.toInt * y.toInt) % ((prN q : Nat) : Int))) ?_
  have hP9 : va_P (dC, dI) vwCl [(xo, .inr (2, [.int (nI k), .ref ra, .ref rb, .int (nI rs), .ref sm, .ref hh, .ref ps, .ref pb]))] H := hP.sub [0] rfl
  have hD9 : va_D A [(xo, .inr (2, [.int (nI k), .ref ra, .ref rb, .int (nI rs), .ref sm, .ref hh, .ref ps, .ref pb]))] := hD.sub [0] (by decide) rfl
  exact W.iret (v := iI ((x.toInt * y.toInt) % ((prN q : Nat) : Int))) hx hb hr (fun t ht hW => ⟨⟨iI ((x.toInt * y.toInt) % ((prN q : Nat) : Int)), (), rfl, rfl, by rw [ht]; exact hP9, hD9⟩, hS.F ht⟩) hS.2.2 dX3_product_19

abbrev q_X3_product_bad (dC : Nat → ClassId) (dI : Nat → Nat → Nat) (xo ra rb sm hh ps pb k rs : Nat) (i x y : Int32) (A : Nat → Prop) : Array Value → State → Outcome → State → Prop := va_Qi (fun (r : Int32) (u : Unit) => False) (fun u t => va_P (dC, dI) vwCl [(xo, .inr (2, [.int (nI k), .ref ra, .ref rb, .int (nI rs), .ref sm, .ref hh, .ref ps, .ref pb]))] t.heap ∧ va_D A [(xo, .inr (2, [.int (nI k), .ref ra, .ref rb, .int (nI rs), .ref sm, .ref hh, .ref ps, .ref pb]))]) A
abbrev x_X3_product_bad (dC : Nat → ClassId) (dI : Nat → Nat → Nat) (xo ra rb sm hh ps pb k rs : Nat) (i x y : Int32) (A : Nat → Prop) : String → State → State → Prop := vx_X (fun _ : Unit => True) (fun E _ t => (E = "java/lang/IllegalArgumentException") ∧ va_P (dC, dI) vwCl [(xo, .inr (2, [.int (nI k), .ref ra, .ref rb, .int (nI rs), .ref sm, .ref hh, .ref ps, .ref pb]))] t.heap ∧ va_D A [(xo, .inr (2, [.int (nI k), .ref ra, .ref rb, .int (nI rs), .ref sm, .ref hh, .ref ps, .ref pb]))]) A
set_option maxHeartbeats 4000000 in
set_option maxRecDepth 100000 in
theorem c_X3_product_bad (l : Launch) (dC : Nat → ClassId) (dI : Nat → Nat → Nat) (xo ra rb sm hh ps pb k rs : Nat) (i x y : Int32) (sz : Nat) (hl9 : l.stackTraces = false) (tP : Nat) (sa : Nat → Nat) (hbad : i < 0 ∨ nI 3 ≤ i) : vx_Met l yX3_product wsX3_product ({ frames := 7, cells := 1, slots := 6, locals := 103 }) (va_Pc [.ref xo, .int i, .int x, .int y] (fun U => U.heap.size = sz ∧ va_P (dC, dI) vwCl [(xo, .inr (2, [.int (nI k), .ref ra, .ref rb, .int (nI rs), .ref sm, .ref hh, .ref ps, .ref pb]))] U.heap ∧ va_K (dC, dI) vwCl [] U ∧ va_D (fun _ => True) [(xo, .inr (2, [.int (nI k), .ref ra, .ref rb, .int (nI rs), .ref sm, .ref hh, .ref ps, .ref pb]))] ∧ amb tP sa (va_A [(xo, .inr (2, [.int (nI k), .ref ra, .ref rb, .int (nI rs), .ref sm, .ref hh, .ref ps, .ref pb]))] sz) U U.heap)) (q_X3_product_bad dC dI xo ra rb sm hh ps pb k rs i x y (va_A [(xo, .inr (2, [.int (nI k), .ref ra, .ref rb, .int (nI rs), .ref sm, .ref hh, .ref ps, .ref pb]))] sz)) (x_X3_product_bad dC dI xo ra rb sm hh ps pb k rs i x y (va_A [(xo, .inr (2, [.int (nI k), .ref ra, .ref rb, .int (nI rs), .ref sm, .ref hh, .ref ps, .ref pb]))] sz)) 1 6 (va_A [(xo, .inr (2, [.int (nI k), .ref ra, .ref rb, .int (nI rs), .ref sm, .ref hh, .ref ps, .ref pb]))] sz) := by
  refine vx_ofW (cc := cX3_product) (maxL := 4) (ret := (some .int)) (by decide) rfl ?_
  intro p e s m args below meth c s₁ B hml htab hv
  obtain ⟨rfl, hsz, hP, hK, hD0, hM⟩ := hv
  have hx := B.exec
  have hb := B.bytes
  have hr := B.returns
  have hts := atoms_spec (ws := wsX3_product) B.pre
  have hown : s.vm.findClass RX3 = some m.cls := findClass_of_methodNamed B.named
  have hlocks := B.notSynchronized
  subst hsz
  have hD := hD0.self (sz := s.heap.size)
  generalize hAe : va_A [(xo, .inr (2, [.int (nI k), .ref ra, .ref rb, .int (nI rs), .ref sm, .ref hh, .ref ps, .ref pb]))] s.heap.size = A at hD hM ⊢
  have hA : ∀ q : Nat, s.heap.size ≤ q → A q := fun q h => by rw [← hAe]; exact Or.inr h
  have hS : va_S A s.heap s.heap [] := va_S.rf
  have hP : va_P (dC, dI) vwCl [(xo, .inr (2, [.int (nI k), .ref ra, .ref rb, .int (nI rs), .ref sm, .ref hh, .ref ps, .ref pb]))] s.heap := hP
  have hl := lv_entry (([.ref xo, .int i, .int x, .int y] : List Value)) (n := 4) (Nat.le_of_ble_eq_true rfl)
  rw [lg_entry_eq]
  generalize (lg_sl (([.ref xo, .int i, .int x, .int y] : List Value)) ++ List.replicate (4 - (lg_sl (([.ref xo, .int i, .int x, .int y] : List Value))).length) Slot.unset).toArray = ls at hl ⊢
  have hl : lv_has ls 4 [(0, .ref xo), (1, .int i), (2, .int x), (3, .int y)] := hl
  obtain ⟨H, hHe⟩ : ∃ H : Heap, H = s.heap := ⟨_, rfl⟩
  rw [← hHe] at hP
  have hS : va_S A s.heap H [] := by rw [hHe]; exact hS
  obtain ⟨locs, hlo⟩ : ∃ L : List Loc, L = [] := ⟨_, rfl⟩
  rw [← hlo] at hS ⊢
  rw [← hHe]
  refine lv_aload_n hx hb dX3_product_0 rfl (lv_at hl 0 rfl) ?_
  refine lv_iload_n hx hb dX3_product_1 rfl (lv_at hl 1 rfl) ?_
  have hPc := hP.sub (ws' := [(xo, .inr (2, [.int (nI k), .ref ra, .ref rb, .int (nI rs), .ref sm, .ref hh, .ref ps, .ref pb]))]) [0] rfl
  have hDc := hD.sub (ws' := [(xo, .inr (2, [.int (nI k), .ref ra, .ref rb, .int (nI rs), .ref sm, .ref hh, .ref ps, .ref pb]))]) [0] (by decide) rfl
  have hKc := hK.sub (tys' := []) [] rfl
  have hFc := va_free (wc := [(xo, .inr (2, [.int (nI k), .ref ra, .ref rb, .int (nI rs), .ref sm, .ref hh, .ref ps, .ref pb]))]) hD hS hA [0] rfl
  refine vx_callv (vx_runV (As := [.int i]) (rest := []) ⟨hx, hb, hml, hown, hts⟩ (c_X3_requirePrime_bad l dC dI xo ra rb sm hh ps pb k rs i H.size hl9 tP sa hbad) (cwV 1 hts gX3_product_X3_requirePrime rfl rfl rfl (by decide +kernel) ⟨Nat.le_of_ble_eq_true rfl, Nat.le_of_ble_eq_true rfl⟩) ⟨fun a U g mk q => by obtain ⟨q0, q1, qP, qK, qD, qM⟩ := q; exact ⟨q0, q1, qP, va_K.moved (u := U) (U := U.calling g mk a) (Vm.Alike.refl U.vm) qK, qD, amb_same (U := U) (U' := U.calling g mk a) rfl rfl qM⟩, va_recv hKc hPc (ci := 2) (q0 := 0) rfl rfl, fun U hU hW => ⟨rfl, by rw [hU], by rw [hU]; exact hPc, va_K.moved hW.alike hKc, hDc.weaken (fun _ _ _ _ => trivial), amb_pass hM hS hFc hW hU⟩⟩ rfl rfl hl.1 rfl (lv_room (Nat.le_of_ble_eq_true rfl)) dX3_product_2 ⟨Nat.le_of_ble_eq_true rfl, Nat.le_of_ble_eq_true rfl⟩) hS (fun q _ h => hFc q h) hFc (fun q _ h => hFc q h) (fun E9 ce9 q9 u9 t9 H1 locs ht hvm hw hB hz1 hk1 hS hce hcv hcl => ?_) (fun u9 t9 H1 locs ht hvm hw hB hz1 hk1 hS => ?_)
  · obtain ⟨hxp, hP1, hD1⟩ := hB
    rw [ht] at hP1
    obtain ⟨hP, hD⟩ := va_join (wr := []) (w1 := [(xo, .inr (2, [.int (nI k), .ref ra, .ref rb, .int (nI rs), .ref sm, .ref hh, .ref ps, .ref pb]))]) hP hD [0] [] rfl rfl (by decide) (by decide) hk1 hFc hP1 hD1
    have hP9 : va_P (dC, dI) vwCl [(xo, .inr (2, [.int (nI k), .ref ra, .ref rb, .int (nI rs), .ref sm, .ref hh, .ref ps, .ref pb]))] H1 := hP.sub [0] rfl
    have hD9 : va_D A [(xo, .inr (2, [.int (nI k), .ref ra, .ref rb, .int (nI rs), .ref sm, .ref hh, .ref ps, .ref pb]))] := hD.sub [0] (by decide) rfl
    exact vx_out (E := E9) (fun x h => (htab x h).elim) hlocks hce hcv hcl (fun t ht9 hal => ⟨(), trivial, ⟨hxp, by rw [ht9]; exact hP9, hD9⟩, hS.F ht9⟩) hS.2.2 (Nat.le_of_ble_eq_true rfl) (Nat.le_of_ble_eq_true rfl)
  exact hw.elim

abbrev q_X3_root_ok (dC : Nat → ClassId) (dI : Nat → Nat → Nat) (xo ra rb sm hh ps pb k rs : Nat) (q : Nat) (e9 : Int32) (A : Nat → Prop) : Array Value → State → Outcome → State → Prop := va_Qi (fun (r : Int32) (u : Unit) => r = iI (frW k (prN q) ^ ex32 e9 k % (prN q : Int))) (fun u t => va_P (dC, dI) vwCl [(xo, .inr (2, [.int (nI k), .ref ra, .ref rb, .int (nI rs), .ref sm, .ref hh, .ref ps, .ref pb]))] t.heap ∧ va_D A [(xo, .inr (2, [.int (nI k), .ref ra, .ref rb, .int (nI rs), .ref sm, .ref hh, .ref ps, .ref pb]))]) A
set_option maxHeartbeats 4000000 in
set_option maxRecDepth 100000 in
theorem c_X3_root_ok (l : Launch) (dC : Nat → ClassId) (dI : Nat → Nat → Nat) (xo ra rb sm hh ps pb k rs : Nat) (q : Nat) (e9 : Int32) (sz : Nat) (tP : Nat) (sa : Nat → Nat) (zk1 : 1 ≤ k) (zk : k ≤ 8) (zq : q < 3) : Met l yX3_root wsX3_root ({ frames := 3, cells := 0, slots := 0, locals := 72 }) (va_Pc [.ref xo, .int (nI q), .int e9] (fun U => U.heap.size = sz ∧ va_P (dC, dI) vwCl [(xo, .inr (2, [.int (nI k), .ref ra, .ref rb, .int (nI rs), .ref sm, .ref hh, .ref ps, .ref pb]))] U.heap ∧ va_K (dC, dI) vwCl [] U ∧ va_D (fun _ => True) [(xo, .inr (2, [.int (nI k), .ref ra, .ref rb, .int (nI rs), .ref sm, .ref hh, .ref ps, .ref pb]))] ∧ amb tP sa (va_A [(xo, .inr (2, [.int (nI k), .ref ra, .ref rb, .int (nI rs), .ref sm, .ref hh, .ref ps, .ref pb]))] sz) U U.heap)) (q_X3_root_ok dC dI xo ra rb sm hh ps pb k rs q e9 (va_A [(xo, .inr (2, [.int (nI k), .ref ra, .ref rb, .int (nI rs), .ref sm, .ref hh, .ref ps, .ref pb]))] sz)) 0 0 (va_A [(xo, .inr (2, [.int (nI k), .ref ra, .ref rb, .int (nI rs), .ref sm, .ref hh, .ref ps, .ref pb]))] sz) := by
  refine Met.ofW (cc := cX3_root) (maxL := 3) (ret := (some .int)) (by decide) rfl ?_
  intro p e s m args below meth c s₁ B hml hv
  obtain ⟨rfl, hsz, hP, hK, hD0, hM⟩ := hv
  have hx := B.exec
  have hb := B.bytes
  have hr := B.returns
  have hts := atoms_spec (ws := wsX3_root) B.pre
  have hown : s.vm.findClass RX3 = some m.cls := findClass_of_methodNamed B.named
  have hlocks := B.notSynchronized
  subst hsz
  have hD := hD0.self (sz := s.heap.size)
  generalize hAe : va_A [(xo, .inr (2, [.int (nI k), .ref ra, .ref rb, .int (nI rs), .ref sm, .ref hh, .ref ps, .ref pb]))] s.heap.size = A at hD hM ⊢
  have hA : ∀ q : Nat, s.heap.size ≤ q → A q := fun q h => by rw [← hAe]; exact Or.inr h
  have hS : va_S A s.heap s.heap [] := va_S.rf
  have hP : va_P (dC, dI) vwCl [(xo, .inr (2, [.int (nI k), .ref ra, .ref rb, .int (nI rs), .ref sm, .ref hh, .ref ps, .ref pb]))] s.heap := hP
  have hl := lv_entry (([.ref xo, .int (nI q), .int e9] : List Value)) (n := 3) (Nat.le_of_ble_eq_true rfl)
  rw [lg_entry_eq]
  generalize (lg_sl (([.ref xo, .int (nI q), .int e9] : List Value)) ++ List.replicate (3 - (lg_sl (([.ref xo, .int (nI q), .int e9] : List Value))).length) Slot.unset).toArray = ls at hl ⊢
  have hl : lv_has ls 3 [(0, .ref xo), (1, .int (nI q)), (2, .int e9)] := hl
  obtain ⟨H, hHe⟩ : ∃ H : Heap, H = s.heap := ⟨_, rfl⟩
  rw [← hHe] at hP
  have hS : va_S A s.heap H [] := by rw [hHe]; exact hS
  obtain ⟨locs, hlo⟩ : ∃ L : List Loc, L = [] := ⟨_, rfl⟩
  rw [← hlo] at hS ⊢
  rw [← hHe]
  have hpk := pw8 zk
  refine lv_aload_n hx hb dX3_root_0 rfl (lv_at hl 0 rfl) ?_
  refine lv_iload_n hx hb dX3_root_1 rfl (lv_at hl 1 rfl) ?_
  have hPc := hP.sub (ws' := [(xo, .inr (2, [.int (nI k), .ref ra, .ref rb, .int (nI rs), .ref sm, .ref hh, .ref ps, .ref pb]))]) [0] rfl
  have hDc := hD.sub (ws' := [(xo, .inr (2, [.int (nI k), .ref ra, .ref rb, .int (nI rs), .ref sm, .ref hh, .ref ps, .ref pb]))]) [0] (by decide) rfl
  have hKc := hK.sub (tys' := []) [] rfl
  have hFc := va_free (wc := [(xo, .inr (2, [.int (nI k), .ref ra, .ref rb, .int (nI rs), .ref sm, .ref hh, .ref ps, .ref pb]))]) hD hS hA [0] rfl
  refine va_callv (va_runV (As := [.int (nI q)]) (rest := []) ⟨hx, hb, hml, hown, hts⟩ (c_X3_requirePrime_ok l dC dI xo ra rb sm hh ps pb k rs q H.size tP sa (by omega)) (cwV 1 hts gX3_root_X3_requirePrime rfl rfl rfl (by decide +kernel) ⟨Nat.le_of_ble_eq_true rfl, Nat.le_of_ble_eq_true rfl⟩) ⟨fun a U g mk q => by obtain ⟨q0, q1, qP, qK, qD, qM⟩ := q; exact ⟨q0, q1, qP, va_K.moved (u := U) (U := U.calling g mk a) (Vm.Alike.refl U.vm) qK, qD, amb_same (U := U) (U' := U.calling g mk a) rfl rfl qM⟩, va_recv hKc hPc (ci := 2) (q0 := 0) rfl rfl, fun U hU hW => ⟨rfl, by rw [hU], by rw [hU]; exact hPc, va_K.moved hW.alike hKc, hDc.weaken (fun _ _ _ _ => trivial), amb_pass hM hS hFc hW hU⟩⟩ rfl rfl hl.1 rfl (lv_room (Nat.le_of_ble_eq_true rfl)) dX3_root_2 ⟨Nat.le_of_ble_eq_true rfl, Nat.le_of_ble_eq_true rfl⟩) hS (fun q _ h => hFc q h) hFc (fun u9 t9 H1 locs ht hvm hw hB hz1 hk1 hS => ?_)
  obtain ⟨hP1, hD1⟩ := hB
  rw [ht] at hP1
  try dsimp only at hw
  obtain ⟨hP, hD⟩ := va_join (wr := []) (w1 := [(xo, .inr (2, [.int (nI k), .ref ra, .ref rb, .int (nI rs), .ref sm, .ref hh, .ref ps, .ref pb]))]) hP hD [0] [] rfl rfl (by decide) (by decide) hk1 hFc hP1 hD1
  generalize H1 = H at hP hS ⊢
  have hP : va_P (dC, dI) vwCl [(xo, .inr (2, [.int (nI k), .ref ra, .ref rb, .int (nI rs), .ref sm, .ref hh, .ref ps, .ref pb]))] H := hP
  have hD : va_D A [(xo, .inr (2, [.int (nI k), .ref ra, .ref rb, .int (nI rs), .ref sm, .ref hh, .ref ps, .ref pb]))] := hD
  clear hPc hDc hKc hFc hP1 hD1 hk1 hz1 hvm ht
  clear hw
  refine lv_aload_n hx hb dX3_root_5 rfl (lv_at hl 0 rfl) ?_
  refine lv_iload_n hx hb dX3_root_6 rfl (lv_at hl 1 rfl) ?_
  refine lv_iload_n hx hb dX3_root_7 rfl (lv_at hl 2 rfl) ?_
  have hPc := hP.sub (ws' := [(xo, .inr (2, [.int (nI k), .ref ra, .ref rb, .int (nI rs), .ref sm, .ref hh, .ref ps, .ref pb]))]) [0] rfl
  have hDc := hD.sub (ws' := [(xo, .inr (2, [.int (nI k), .ref ra, .ref rb, .int (nI rs), .ref sm, .ref hh, .ref ps, .ref pb]))]) [0] (by decide) rfl
  have hKc := hK.sub (tys' := []) [] rfl
  have hFc := va_free (wc := [(xo, .inr (2, [.int (nI k), .ref ra, .ref rb, .int (nI rs), .ref sm, .ref hh, .ref ps, .ref pb]))]) hD hS hA [0] rfl
  refine va_calll (va_runV (As := [.int (nI q), .int e9]) (rest := []) ⟨hx, hb, hml, hown, hts⟩ (c_X3_rootToThe l dC dI xo ra rb sm hh ps pb k rs q e9 H.size tP sa (by omega) (by omega) (by omega)) (cwV 2 hts gX3_root_X3_rootToThe rfl rfl rfl (by decide +kernel) ⟨Nat.le_of_ble_eq_true rfl, Nat.le_of_ble_eq_true rfl⟩) ⟨fun a U g mk q => by obtain ⟨q0, q1, qP, qK, qD, qM⟩ := q; exact ⟨q0, q1, qP, va_K.moved (u := U) (U := U.calling g mk a) (Vm.Alike.refl U.vm) qK, qD, amb_same (U := U) (U' := U.calling g mk a) rfl rfl qM⟩, va_recv hKc hPc (ci := 2) (q0 := 0) rfl rfl, fun U hU hW => ⟨rfl, by rw [hU], by rw [hU]; exact hPc, va_K.moved hW.alike hKc, hDc.weaken (fun _ _ _ _ => trivial), amb_pass hM hS hFc hW hU⟩⟩ rfl rfl hl.1 rfl (lv_room (Nat.le_of_ble_eq_true rfl)) dX3_root_8 ⟨Nat.le_of_ble_eq_true rfl, Nat.le_of_ble_eq_true rfl⟩) hS (fun q _ h => hFc q h) hFc (fun r9 u9 t9 H1 locs ht hvm hw hB hz1 hk1 hS => ?_)
  obtain ⟨hP1, hD1⟩ := hB
  rw [ht] at hP1
  try dsimp only at hw
  obtain ⟨hP, hD⟩ := va_join (wr := []) (w1 := [(xo, .inr (2, [.int (nI k), .ref ra, .ref rb, .int (nI rs), .ref sm, .ref hh, .ref ps, .ref pb]))]) hP hD [0] [] rfl rfl (by decide) (by decide) hk1 hFc hP1 hD1
  generalize H1 = H at hP hS ⊢
  have hP : va_P (dC, dI) vwCl [(xo, .inr (2, [.int (nI k), .ref ra, .ref rb, .int (nI rs), .ref sm, .ref hh, .ref ps, .ref pb]))] H := hP
  have hD : va_D A [(xo, .inr (2, [.int (nI k), .ref ra, .ref rb, .int (nI rs), .ref sm, .ref hh, .ref ps, .ref pb]))] := hD
  clear hPc hDc hKc hFc hP1 hD1 hk1 hz1 hvm ht
  subst hw
  refine lv_l2i (v := iI (frW k (prN q) ^ ex32 e9 k % (prN q : Int))) hx hb dX3_root_11 (lI_i (frW k (prN q) ^ ex32 e9 k % (prN q : Int))) ?_
  have hP9 : va_P (dC, dI) vwCl [(xo, .inr (2, [.int (nI k), .ref ra, .ref rb, .int (nI rs), .ref sm, .ref hh, .ref ps, .ref pb]))] H := hP.sub [0] rfl
  have hD9 : va_D A [(xo, .inr (2, [.int (nI k), .ref ra, .ref rb, .int (nI rs), .ref sm, .ref hh, .ref ps, .ref pb]))] := hD.sub [0] (by decide) rfl
  exact W.iret (v := iI (frW k (prN q) ^ ex32 e9 k % (prN q : Int))) hx hb hr (fun t ht hW => ⟨⟨iI (frW k (prN q) ^ ex32 e9 k % (prN q : Int)), (), rfl, rfl, by rw [ht]; exact hP9, hD9⟩, hS.F ht⟩) hS.2.2 dX3_root_12

abbrev q_X3_root_bad (dC : Nat → ClassId) (dI : Nat → Nat → Nat) (xo ra rb sm hh ps pb k rs : Nat) (i v : Int32) (A : Nat → Prop) : Array Value → State → Outcome → State → Prop := va_Qi (fun (r : Int32) (u : Unit) => False) (fun u t => va_P (dC, dI) vwCl [(xo, .inr (2, [.int (nI k), .ref ra, .ref rb, .int (nI rs), .ref sm, .ref hh, .ref ps, .ref pb]))] t.heap ∧ va_D A [(xo, .inr (2, [.int (nI k), .ref ra, .ref rb, .int (nI rs), .ref sm, .ref hh, .ref ps, .ref pb]))]) A
abbrev x_X3_root_bad (dC : Nat → ClassId) (dI : Nat → Nat → Nat) (xo ra rb sm hh ps pb k rs : Nat) (i v : Int32) (A : Nat → Prop) : String → State → State → Prop := vx_X (fun _ : Unit => True) (fun E _ t => (E = "java/lang/IllegalArgumentException") ∧ va_P (dC, dI) vwCl [(xo, .inr (2, [.int (nI k), .ref ra, .ref rb, .int (nI rs), .ref sm, .ref hh, .ref ps, .ref pb]))] t.heap ∧ va_D A [(xo, .inr (2, [.int (nI k), .ref ra, .ref rb, .int (nI rs), .ref sm, .ref hh, .ref ps, .ref pb]))]) A
set_option maxHeartbeats 4000000 in
set_option maxRecDepth 100000 in
theorem c_X3_root_bad (l : Launch) (dC : Nat → ClassId) (dI : Nat → Nat → Nat) (xo ra rb sm hh ps pb k rs : Nat) (i v : Int32) (sz : Nat) (hl9 : l.stackTraces = false) (tP : Nat) (sa : Nat → Nat) (hbad : i < 0 ∨ nI 3 ≤ i) : vx_Met l yX3_root wsX3_root ({ frames := 7, cells := 1, slots := 6, locals := 103 }) (va_Pc [.ref xo, .int i, .int v] (fun U => U.heap.size = sz ∧ va_P (dC, dI) vwCl [(xo, .inr (2, [.int (nI k), .ref ra, .ref rb, .int (nI rs), .ref sm, .ref hh, .ref ps, .ref pb]))] U.heap ∧ va_K (dC, dI) vwCl [] U ∧ va_D (fun _ => True) [(xo, .inr (2, [.int (nI k), .ref ra, .ref rb, .int (nI rs), .ref sm, .ref hh, .ref ps, .ref pb]))] ∧ amb tP sa (va_A [(xo, .inr (2, [.int (nI k), .ref ra, .ref rb, .int (nI rs), .ref sm, .ref hh, .ref ps, .ref pb]))] sz) U U.heap)) (q_X3_root_bad dC dI xo ra rb sm hh ps pb k rs i v (va_A [(xo, .inr (2, [.int (nI k), .ref ra, .ref rb, .int (nI rs), .ref sm, .ref hh, .ref ps, .ref pb]))] sz)) (x_X3_root_bad dC dI xo ra rb sm hh ps pb k rs i v (va_A [(xo, .inr (2, [.int (nI k), .ref ra, .ref rb, .int (nI rs), .ref sm, .ref hh, .ref ps, .ref pb]))] sz)) 1 6 (va_A [(xo, .inr (2, [.int (nI k), .ref ra, .ref rb, .int (nI rs), .ref sm, .ref hh, .ref ps, .ref pb]))] sz) := by
  refine vx_ofW (cc := cX3_root) (maxL := 3) (ret := (some .int)) (by decide) rfl ?_
  intro p e s m args below meth c s₁ B hml htab hv
  obtain ⟨rfl, hsz, hP, hK, hD0, hM⟩ := hv
  have hx := B.exec
  have hb := B.bytes
  have hr := B.returns
  have hts := atoms_spec (ws := wsX3_root) B.pre
  have hown : s.vm.findClass RX3 = some m.cls := findClass_of_methodNamed B.named
  have hlocks := B.notSynchronized
  subst hsz
  have hD := hD0.self (sz := s.heap.size)
  generalize hAe : va_A [(xo, .inr (2, [.int (nI k), .ref ra, .ref rb, .int (nI rs), .ref sm, .ref hh, .ref ps, .ref pb]))] s.heap.size = A at hD hM ⊢
  have hA : ∀ q : Nat, s.heap.size ≤ q → A q := fun q h => by rw [← hAe]; exact Or.inr h
  have hS : va_S A s.heap s.heap [] := va_S.rf
  have hP : va_P (dC, dI) vwCl [(xo, .inr (2, [.int (nI k), .ref ra, .ref rb, .int (nI rs), .ref sm, .ref hh, .ref ps, .ref pb]))] s.heap := hP
  have hl := lv_entry (([.ref xo, .int i, .int v] : List Value)) (n := 3) (Nat.le_of_ble_eq_true rfl)
  rw [lg_entry_eq]
  generalize (lg_sl (([.ref xo, .int i, .int v] : List Value)) ++ List.replicate (3 - (lg_sl (([.ref xo, .int i, .int v] : List Value))).length) Slot.unset).toArray = ls at hl ⊢
  have hl : lv_has ls 3 [(0, .ref xo), (1, .int i), (2, .int v)] := hl
  obtain ⟨H, hHe⟩ : ∃ H : Heap, H = s.heap := ⟨_, rfl⟩
  rw [← hHe] at hP
  have hS : va_S A s.heap H [] := by rw [hHe]; exact hS
  obtain ⟨locs, hlo⟩ : ∃ L : List Loc, L = [] := ⟨_, rfl⟩
  rw [← hlo] at hS ⊢
  rw [← hHe]
  refine lv_aload_n hx hb dX3_root_0 rfl (lv_at hl 0 rfl) ?_
  refine lv_iload_n hx hb dX3_root_1 rfl (lv_at hl 1 rfl) ?_
  have hPc := hP.sub (ws' := [(xo, .inr (2, [.int (nI k), .ref ra, .ref rb, .int (nI rs), .ref sm, .ref hh, .ref ps, .ref pb]))]) [0] rfl
  have hDc := hD.sub (ws' := [(xo, .inr (2, [.int (nI k), .ref ra, .ref rb, .int (nI rs), .ref sm, .ref hh, .ref ps, .ref pb]))]) [0] (by decide) rfl
  have hKc := hK.sub (tys' := []) [] rfl
  have hFc := va_free (wc := [(xo, .inr (2, [.int (nI k), .ref ra, .ref rb, .int (nI rs), .ref sm, .ref hh, .ref ps, .ref pb]))]) hD hS hA [0] rfl
  refine vx_callv (vx_runV (As := [.int i]) (rest := []) ⟨hx, hb, hml, hown, hts⟩ (c_X3_requirePrime_bad l dC dI xo ra rb sm hh ps pb k rs i H.size hl9 tP sa hbad) (cwV 1 hts gX3_root_X3_requirePrime rfl rfl rfl (by decide +kernel) ⟨Nat.le_of_ble_eq_true rfl, Nat.le_of_ble_eq_true rfl⟩) ⟨fun a U g mk q => by obtain ⟨q0, q1, qP, qK, qD, qM⟩ := q; exact ⟨q0, q1, qP, va_K.moved (u := U) (U := U.calling g mk a) (Vm.Alike.refl U.vm) qK, qD, amb_same (U := U) (U' := U.calling g mk a) rfl rfl qM⟩, va_recv hKc hPc (ci := 2) (q0 := 0) rfl rfl, fun U hU hW => ⟨rfl, by rw [hU], by rw [hU]; exact hPc, va_K.moved hW.alike hKc, hDc.weaken (fun _ _ _ _ => trivial), amb_pass hM hS hFc hW hU⟩⟩ rfl rfl hl.1 rfl (lv_room (Nat.le_of_ble_eq_true rfl)) dX3_root_2 ⟨Nat.le_of_ble_eq_true rfl, Nat.le_of_ble_eq_true rfl⟩) hS (fun q _ h => hFc q h) hFc (fun q _ h => hFc q h) (fun E9 ce9 q9 u9 t9 H1 locs ht hvm hw hB hz1 hk1 hS hce hcv hcl => ?_) (fun u9 t9 H1 locs ht hvm hw hB hz1 hk1 hS => ?_)
  · obtain ⟨hxp, hP1, hD1⟩ := hB
    rw [ht] at hP1
    obtain ⟨hP, hD⟩ := va_join (wr := []) (w1 := [(xo, .inr (2, [.int (nI k), .ref ra, .ref rb, .int (nI rs), .ref sm, .ref hh, .ref ps, .ref pb]))]) hP hD [0] [] rfl rfl (by decide) (by decide) hk1 hFc hP1 hD1
    have hP9 : va_P (dC, dI) vwCl [(xo, .inr (2, [.int (nI k), .ref ra, .ref rb, .int (nI rs), .ref sm, .ref hh, .ref ps, .ref pb]))] H1 := hP.sub [0] rfl
    have hD9 : va_D A [(xo, .inr (2, [.int (nI k), .ref ra, .ref rb, .int (nI rs), .ref sm, .ref hh, .ref ps, .ref pb]))] := hD.sub [0] (by decide) rfl
    exact vx_out (E := E9) (fun x h => (htab x h).elim) hlocks hce hcv hcl (fun t ht9 hal => ⟨(), trivial, ⟨hxp, by rw [ht9]; exact hP9, hD9⟩, hS.F ht9⟩) hS.2.2 (Nat.le_of_ble_eq_true rfl) (Nat.le_of_ble_eq_true rfl)
  exact hw.elim
