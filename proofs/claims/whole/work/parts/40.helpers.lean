theorem cnt_b {kd k : Nat} (hkd : kd < 3) (hk : k ≤ 8) : cntK kd k ≤ 511 ∧ 2 ^ k ≤ cntK kd k := by
  have hp := pw8 hk
  match kd, hkd with
  | 0, _ => show 2 ^ k ≤ 511 ∧ 2 ^ k ≤ 2 ^ k; omega
  | 1, _ => show 2 ^ k ≤ 511 ∧ 2 ^ k ≤ 2 ^ k; omega
  | 2, _ => show 2 * 2 ^ k - 1 ≤ 511 ∧ 2 ^ k ≤ 2 * 2 ^ k - 1; omega
abbrev q_L_size_ok (dC : Nat → ClassId) (dI : Nat → Nat → Nat) (xo ra rb sm hh ps pb k rs : Nat) (cI : ClassId) (fA fB : Nat → Int32) (n : Nat) (A : Nat → Prop) : Array Value → State → Outcome → State → Prop := va_Qi (fun (r : Int32) (u : Unit) => r = nI 0) (fun u t => va_P (dC, dI) vwCl [(xo, .inr (2, [.int (nI n), .ref ra, .ref rb, .int (nI 0), .ref sm, .ref hh, .ref ps, .ref pb])), (ra, .inl (cI, 256, .inl (zrI fA (2 ^ n)))), (rb, .inl (cI, 256, .inl (zrI fB (2 ^ n))))] t.heap ∧ va_D A [(xo, .inr (2, [.int (nI n), .ref ra, .ref rb, .int (nI 0), .ref sm, .ref hh, .ref ps, .ref pb])), (ra, .inl (cI, 256, .inl (zrI fA (2 ^ n)))), (rb, .inl (cI, 256, .inl (zrI fB (2 ^ n))))]) A
set_option maxHeartbeats 4000000 in
set_option maxRecDepth 100000 in
theorem c_L_size_ok (l : Launch) (dC : Nat → ClassId) (dI : Nat → Nat → Nat) (xo ra rb sm hh ps pb k rs : Nat) (cI : ClassId) (fA fB : Nat → Int32) (n : Nat) (sz : Nat) (zk1 : 1 ≤ n) (zk0 : n ≤ 8) : Met l yL_size wsL_size ({ frames := 2, cells := 0, slots := 0, locals := 42 }) (va_Pc [.ref xo, .int (nI n)] (fun U => U.heap.size = sz ∧ va_P (dC, dI) vwCl [(xo, .inr (2, [.int (nI k), .ref ra, .ref rb, .int (nI rs), .ref sm, .ref hh, .ref ps, .ref pb])), (ra, .inl (cI, 256, .inl fA)), (rb, .inl (cI, 256, .inl fB))] U.heap ∧ va_K (dC, dI) vwCl [(cI, .int)] U ∧ va_D (fun _ => True) [(xo, .inr (2, [.int (nI k), .ref ra, .ref rb, .int (nI rs), .ref sm, .ref hh, .ref ps, .ref pb])), (ra, .inl (cI, 256, .inl fA)), (rb, .inl (cI, 256, .inl fB))])) (q_L_size_ok dC dI xo ra rb sm hh ps pb k rs cI fA fB n (va_A [(xo, .inr (2, [.int (nI k), .ref ra, .ref rb, .int (nI rs), .ref sm, .ref hh, .ref ps, .ref pb])), (ra, .inl (cI, 256, .inl fA)), (rb, .inl (cI, 256, .inl fB))] sz)) 0 0 (va_A [(xo, .inr (2, [.int (nI k), .ref ra, .ref rb, .int (nI rs), .ref sm, .ref hh, .ref ps, .ref pb])), (ra, .inl (cI, 256, .inl fA)), (rb, .inl (cI, 256, .inl fB))] sz) := by
  refine va_MetW (cc := cL_size) (maxL := 3) (ret := (some .int)) (hh := [(0, 5, 8, 13)]) (by decide) rfl ?_
  intro p e s m args below meth c s₁ B hml hv
  obtain ⟨rfl, hsz, hP, hK, hD0⟩ := hv
  have hx := B.exec
  have hb := B.bytes
  have hr := B.returns
  have hts := atoms_spec (ws := wsL_size) B.pre
  have hown : s.vm.findClass RL = some m.cls := findClass_of_methodNamed B.named
  have hlocks := B.notSynchronized
  have htab := vx_table (x := yL_size) B (hts (.codeWith yL_size cL_size 3 (some .int) [(0, 5, 8, 13)]) List.mem_cons_self)
  subst hsz
  have hD := hD0.self (sz := s.heap.size)
  generalize hAe : va_A [(xo, .inr (2, [.int (nI k), .ref ra, .ref rb, .int (nI rs), .ref sm, .ref hh, .ref ps, .ref pb])), (ra, .inl (cI, 256, .inl fA)), (rb, .inl (cI, 256, .inl fB))] s.heap.size = A at hD ⊢
  have hA : ∀ q : Nat, s.heap.size ≤ q → A q := fun q h => by rw [← hAe]; exact Or.inr h
  have hS : va_S A s.heap s.heap [] := va_S.rf
  have hP : va_P (dC, dI) vwCl [(xo, .inr (2, [.int (nI k), .ref ra, .ref rb, .int (nI rs), .ref sm, .ref hh, .ref ps, .ref pb])), (ra, .inl (cI, 256, .inl fA)), (rb, .inl (cI, 256, .inl fB))] s.heap := hP
  have hl := lv_entry (([.ref xo, .int (nI n)] : List Value)) (n := 3) (Nat.le_of_ble_eq_true rfl)
  rw [lg_entry_eq]
  generalize (lg_sl (([.ref xo, .int (nI n)] : List Value)) ++ List.replicate (3 - (lg_sl (([.ref xo, .int (nI n)] : List Value))).length) Slot.unset).toArray = ls at hl ⊢
  have hl : lv_has ls 3 [(0, .ref xo), (1, .int (nI n))] := hl
  obtain ⟨H, hHe⟩ : ∃ H : Heap, H = s.heap := ⟨_, rfl⟩
  rw [← hHe] at hP
  have hS : va_S A s.heap H [] := by rw [hHe]; exact hS
  obtain ⟨locs, hlo⟩ : ∃ L : List Loc, L = [] := ⟨_, rfl⟩
  rw [← hlo] at hS ⊢
  rw [← hHe]
  refine lv_aload_n hx hb dL_size_0 rfl (lv_at hl 0 rfl) ?_
  refine lv_iload_n hx hb dL_size_1 rfl (lv_at hl 1 rfl) ?_
  have hPc := hP.sub (ws' := [(xo, .inr (2, [.int (nI k), .ref ra, .ref rb, .int (nI rs), .ref sm, .ref hh, .ref ps, .ref pb])), (ra, .inl (cI, 256, .inl fA)), (rb, .inl (cI, 256, .inl fB))]) [0, 1, 2] rfl
  have hDc := hD.sub (ws' := [(xo, .inr (2, [.int (nI k), .ref ra, .ref rb, .int (nI rs), .ref sm, .ref hh, .ref ps, .ref pb])), (ra, .inl (cI, 256, .inl fA)), (rb, .inl (cI, 256, .inl fB))]) [0, 1, 2] (by decide) rfl
  have hKc := hK.sub (tys' := [(cI, .int)]) [0] rfl
  have hFc := va_free (wc := [(xo, .inr (2, [.int (nI k), .ref ra, .ref rb, .int (nI rs), .ref sm, .ref hh, .ref ps, .ref pb])), (ra, .inl (cI, 256, .inl fA)), (rb, .inl (cI, 256, .inl fB))]) hD hS hA [0, 1, 2] rfl
  refine va_callv (va_runV (As := [.int (nI n)]) (rest := []) ⟨hx, hb, hml, hown, hts⟩ (c_X3_size_ok l dC dI xo ra rb sm hh ps pb k rs cI fA fB n H.size zk1 zk0) (cwV 1 hts gL_size_X3_size rfl rfl rfl (by decide +kernel) ⟨Nat.le_of_ble_eq_true rfl, Nat.le_of_ble_eq_true rfl⟩) ⟨fun a U g mk q => by obtain ⟨q0, q1, qP, qK, qD⟩ := q; exact ⟨q0, q1, qP, va_K.moved (u := U) (U := U.calling g mk a) (Vm.Alike.refl U.vm) qK, qD⟩, va_recv hKc hPc (ci := 2) (q0 := 0) rfl rfl, fun U hU hW => ⟨rfl, by rw [hU], by rw [hU]; exact hPc, va_K.moved hW.alike hKc, hDc.weaken (fun _ _ _ _ => trivial)⟩⟩ rfl rfl hl.1 rfl (lv_room (Nat.le_of_ble_eq_true rfl)) dL_size_2 ⟨Nat.le_of_ble_eq_true rfl, Nat.le_of_ble_eq_true rfl⟩) hS (fun q _ h => hFc q h) hFc (fun u9 t9 H1 locs ht hvm hw hB hz1 hk1 hS => ?_)
  obtain ⟨hP1, hD1⟩ := hB
  rw [ht] at hP1
  try dsimp only at hw
  obtain ⟨hP, hD⟩ := va_join (wr := []) (w1 := [(xo, .inr (2, [.int (nI n), .ref ra, .ref rb, .int (nI 0), .ref sm, .ref hh, .ref ps, .ref pb])), (ra, .inl (cI, 256, .inl (zrI fA (2 ^ n)))), (rb, .inl (cI, 256, .inl (zrI fB (2 ^ n))))]) hP hD [0, 1, 2] [] rfl rfl (by decide) (by decide) hk1 hFc hP1 hD1
  generalize H1 = H at hP hS ⊢
  have hP : va_P (dC, dI) vwCl [(xo, .inr (2, [.int (nI n), .ref ra, .ref rb, .int (nI 0), .ref sm, .ref hh, .ref ps, .ref pb])), (ra, .inl (cI, 256, .inl (zrI fA (2 ^ n)))), (rb, .inl (cI, 256, .inl (zrI fB (2 ^ n))))] H := hP
  have hD : va_D A [(xo, .inr (2, [.int (nI n), .ref ra, .ref rb, .int (nI 0), .ref sm, .ref hh, .ref ps, .ref pb])), (ra, .inl (cI, 256, .inl (zrI fA (2 ^ n)))), (rb, .inl (cI, 256, .inl (zrI fB (2 ^ n))))] := hD
  clear hPc hDc hKc hFc hP1 hD1 hk1 hz1 hvm ht
  clear hw
  refine lv_goto (tgt := 11) hx hb dL_size_5 (by decide) ?_
  refine lv_iconst (v := nI 0) hx hb dL_size_11 (by decide) ?_
  have hP9 : va_P (dC, dI) vwCl [(xo, .inr (2, [.int (nI n), .ref ra, .ref rb, .int (nI 0), .ref sm, .ref hh, .ref ps, .ref pb])), (ra, .inl (cI, 256, .inl (zrI fA (2 ^ n)))), (rb, .inl (cI, 256, .inl (zrI fB (2 ^ n))))] H := hP.sub [0, 1, 2] rfl
  have hD9 : va_D A [(xo, .inr (2, [.int (nI n), .ref ra, .ref rb, .int (nI 0), .ref sm, .ref hh, .ref ps, .ref pb])), (ra, .inl (cI, 256, .inl (zrI fA (2 ^ n)))), (rb, .inl (cI, 256, .inl (zrI fB (2 ^ n))))] := hD.sub [0, 1, 2] (by decide) rfl
  exact W.iret (v := nI 0) hx hb hr (fun tq9 ht hW => ⟨⟨nI 0, (), rfl, rfl, by rw [ht]; exact hP9, hD9⟩, hS.F ht⟩) hS.2.2 dL_size_12

abbrev q_L_size_bad (dC : Nat → ClassId) (dI : Nat → Nat → Nat) (xo ra rb sm hh ps pb k rs : Nat) (i : Int32) (A : Nat → Prop) : Array Value → State → Outcome → State → Prop := va_Qi (fun (r : Int32) (u : Unit) => r = nI 1) (fun u t => va_P (dC, dI) vwCl [(xo, .inr (2, [.int (nI k), .ref ra, .ref rb, .int (nI rs), .ref sm, .ref hh, .ref ps, .ref pb]))] t.heap ∧ va_D A [(xo, .inr (2, [.int (nI k), .ref ra, .ref rb, .int (nI rs), .ref sm, .ref hh, .ref ps, .ref pb]))]) A
set_option maxHeartbeats 4000000 in
set_option maxRecDepth 100000 in
theorem c_L_size_bad (l : Launch) (dC : Nat → ClassId) (dI : Nat → Nat → Nat) (xo ra rb sm hh ps pb k rs : Nat) (i : Int32) (sz : Nat) (tP : Nat) (sa : Nat → Nat) (hl9 : l.stackTraces = false) (hbad : i < nI 1 ∨ nI 8 < i) : Met l yL_size wsL_size ({ frames := 7, cells := 1, slots := 6, locals := 104 }) (va_Pc [.ref xo, .int i] (fun U => U.heap.size = sz ∧ va_P (dC, dI) vwCl [(xo, .inr (2, [.int (nI k), .ref ra, .ref rb, .int (nI rs), .ref sm, .ref hh, .ref ps, .ref pb]))] U.heap ∧ va_K (dC, dI) vwCl [] U ∧ va_D (fun _ => True) [(xo, .inr (2, [.int (nI k), .ref ra, .ref rb, .int (nI rs), .ref sm, .ref hh, .ref ps, .ref pb]))] ∧ amb tP sa (va_A [(xo, .inr (2, [.int (nI k), .ref ra, .ref rb, .int (nI rs), .ref sm, .ref hh, .ref ps, .ref pb]))] sz) U U.heap)) (q_L_size_bad dC dI xo ra rb sm hh ps pb k rs i (va_A [(xo, .inr (2, [.int (nI k), .ref ra, .ref rb, .int (nI rs), .ref sm, .ref hh, .ref ps, .ref pb]))] sz)) 1 6 (va_A [(xo, .inr (2, [.int (nI k), .ref ra, .ref rb, .int (nI rs), .ref sm, .ref hh, .ref ps, .ref pb]))] sz) := by
  refine va_MetW (cc := cL_size) (maxL := 3) (ret := (some .int)) (hh := [(0, 5, 8, 13)]) (by decide) rfl ?_
  intro p e s m args below meth c s₁ B hml hv
  obtain ⟨rfl, hsz, hP, hK, hD0, hM⟩ := hv
  have hx := B.exec
  have hb := B.bytes
  have hr := B.returns
  have hts := atoms_spec (ws := wsL_size) B.pre
  have hown : s.vm.findClass RL = some m.cls := findClass_of_methodNamed B.named
  have hlocks := B.notSynchronized
  have htab := vx_table (x := yL_size) B (hts (.codeWith yL_size cL_size 3 (some .int) [(0, 5, 8, 13)]) List.mem_cons_self)
  subst hsz
  have hD := hD0.self (sz := s.heap.size)
  generalize hAe : va_A [(xo, .inr (2, [.int (nI k), .ref ra, .ref rb, .int (nI rs), .ref sm, .ref hh, .ref ps, .ref pb]))] s.heap.size = A at hD hM ⊢
  have hA : ∀ q : Nat, s.heap.size ≤ q → A q := fun q h => by rw [← hAe]; exact Or.inr h
  have hS : va_S A s.heap s.heap [] := va_S.rf
  have hP : va_P (dC, dI) vwCl [(xo, .inr (2, [.int (nI k), .ref ra, .ref rb, .int (nI rs), .ref sm, .ref hh, .ref ps, .ref pb]))] s.heap := hP
  have hl := lv_entry (([.ref xo, .int i] : List Value)) (n := 3) (Nat.le_of_ble_eq_true rfl)
  rw [lg_entry_eq]
  generalize (lg_sl (([.ref xo, .int i] : List Value)) ++ List.replicate (3 - (lg_sl (([.ref xo, .int i] : List Value))).length) Slot.unset).toArray = ls at hl ⊢
  have hl : lv_has ls 3 [(0, .ref xo), (1, .int i)] := hl
  obtain ⟨H, hHe⟩ : ∃ H : Heap, H = s.heap := ⟨_, rfl⟩
  rw [← hHe] at hP
  have hS : va_S A s.heap H [] := by rw [hHe]; exact hS
  obtain ⟨locs, hlo⟩ : ∃ L : List Loc, L = [] := ⟨_, rfl⟩
  rw [← hlo] at hS ⊢
  rw [← hHe]
  refine lv_aload_n hx hb dL_size_0 rfl (lv_at hl 0 rfl) ?_
  refine lv_iload_n hx hb dL_size_1 rfl (lv_at hl 1 rfl) ?_
  have hPc := hP.sub (ws' := [(xo, .inr (2, [.int (nI k), .ref ra, .ref rb, .int (nI rs), .ref sm, .ref hh, .ref ps, .ref pb]))]) [0] rfl
  have hDc := hD.sub (ws' := [(xo, .inr (2, [.int (nI k), .ref ra, .ref rb, .int (nI rs), .ref sm, .ref hh, .ref ps, .ref pb]))]) [0] (by decide) rfl
  have hKc := hK.sub (tys' := []) [] rfl
  have hFc := va_free (wc := [(xo, .inr (2, [.int (nI k), .ref ra, .ref rb, .int (nI rs), .ref sm, .ref hh, .ref ps, .ref pb]))]) hD hS hA [0] rfl
  refine vx_callv (vx_runV (As := [.int i]) (rest := []) ⟨hx, hb, hml, hown, hts⟩ (c_X3_size_bad l dC dI xo ra rb sm hh ps pb k rs i H.size hl9 tP sa hbad) (cwV 1 hts gL_size_X3_size rfl rfl rfl (by decide +kernel) ⟨Nat.le_of_ble_eq_true rfl, Nat.le_of_ble_eq_true rfl⟩) ⟨fun a U g mk q => by obtain ⟨q0, q1, qP, qK, qD, qM⟩ := q; exact ⟨q0, q1, qP, va_K.moved (u := U) (U := U.calling g mk a) (Vm.Alike.refl U.vm) qK, qD, amb_same (U := U) (U' := U.calling g mk a) rfl rfl qM⟩, va_recv hKc hPc (ci := 2) (q0 := 0) rfl rfl, fun U hU hW => ⟨rfl, by rw [hU], by rw [hU]; exact hPc, va_K.moved hW.alike hKc, hDc.weaken (fun _ _ _ _ => trivial), amb_pass hM hS hFc hW hU⟩⟩ rfl rfl hl.1 rfl (lv_room (Nat.le_of_ble_eq_true rfl)) dL_size_2 ⟨Nat.le_of_ble_eq_true rfl, Nat.le_of_ble_eq_true rfl⟩) hS (fun q _ h => hFc q h) hFc (fun q _ h => hFc q h) (fun E9 ce9 q9 u9 t9 H1 locs ht hvm hw hB hz1 hk1 hS hce hcv hcl => ?_) (fun u9 t9 H1 locs ht hvm hw hB hz1 hk1 hS => ?_)
  · obtain ⟨hxp, hP1, hD1⟩ := hB
    rw [ht] at hP1
    obtain ⟨hP, hD⟩ := va_join (wr := []) (w1 := [(xo, .inr (2, [.int (nI k), .ref ra, .ref rb, .int (nI rs), .ref sm, .ref hh, .ref ps, .ref pb]))]) hP hD [0] [] rfl rfl (by decide) (by decide) hk1 hFc hP1 hD1
    subst hxp
    refine vx_catch (own := RL) (name := "java/lang/IllegalArgumentException") hown [] ⟨0, 5, 8, 13⟩ [] (htab.trans rfl) (fun z hz => (List.not_mem_nil hz).elim) (by decide) (by decide) (hts (.classLink RL 13 "java/lang/IllegalArgumentException") (by decide +kernel)) (va_tabs rfl rfl (hM.2.2.1 (.castable "java/lang/IllegalArgumentException" "java/lang/IllegalArgumentException") (by decide +kernel))) hce hcv hcl ?_
    clear hce
    generalize H1 = H at hP hS ⊢
    have hP : va_P (dC, dI) vwCl [(xo, .inr (2, [.int (nI k), .ref ra, .ref rb, .int (nI rs), .ref sm, .ref hh, .ref ps, .ref pb]))] H := hP
    have hD : va_D A [(xo, .inr (2, [.int (nI k), .ref ra, .ref rb, .int (nI rs), .ref sm, .ref hh, .ref ps, .ref pb]))] := hD
    refine W.widen (k := 1) (n := 6) (by omega) (by omega) ?_
    refine W.eq (g2 := F0 m 8 ls [.ref q9]) rfl ?_
    refine lv_astore_n (lv' := [(2, .ref q9), (0, .ref xo), (1, .int i)]) hx hb dL_size_8 rfl hl (by decide) rfl (fun ls hl => ?_)
    refine lv_iconst (v := nI 1) hx hb dL_size_9 (by decide) ?_
    have hP9 : va_P (dC, dI) vwCl [(xo, .inr (2, [.int (nI k), .ref ra, .ref rb, .int (nI rs), .ref sm, .ref hh, .ref ps, .ref pb]))] H := hP.sub [0] rfl
    have hD9 : va_D A [(xo, .inr (2, [.int (nI k), .ref ra, .ref rb, .int (nI rs), .ref sm, .ref hh, .ref ps, .ref pb]))] := hD.sub [0] (by decide) rfl
    exact W.iret (v := nI 1) hx hb hr (fun tq9 ht hW => ⟨⟨nI 1, (), rfl, rfl, by rw [ht]; exact hP9, hD9⟩, hS.F ht⟩) hS.2.2 dL_size_10
  exact hw.elim

abbrev q_L_setA_ok (dC : Nat → ClassId) (dI : Nat → Nat → Nat) (xo ra rb sm hh ps pb k rs : Nat) (cI : ClassId) (fA : Nat → Int32) (j : Nat) (v : Int32) (oa : Nat) (cJ : ClassId) (FO : Nat → Int) (A : Nat → Prop) : Array Value → State → Outcome → State → Prop := va_Qi (fun (r : Int32) (u : Unit) => r = nI 0) (fun u t => va_P (dC, dI) vwCl [(xo, .inr (2, [.int (nI k), .ref ra, .ref rb, .int (nI rs), .ref sm, .ref hh, .ref ps, .ref pb])), (ra, .inl (cI, 256, .inl (upd fA j v))), (oa, .inl (cJ, 1, .inr (.inl (fun t9 => lI ((upI FO 0 ((fA j).toInt)) t9)))))] t.heap ∧ va_D A [(xo, .inr (2, [.int (nI k), .ref ra, .ref rb, .int (nI rs), .ref sm, .ref hh, .ref ps, .ref pb])), (ra, .inl (cI, 256, .inl (upd fA j v))), (oa, .inl (cJ, 1, .inr (.inl (fun t9 => lI ((upI FO 0 ((fA j).toInt)) t9)))))]) A
set_option maxHeartbeats 4000000 in
set_option maxRecDepth 100000 in
theorem c_L_setA_ok (l : Launch) (dC : Nat → ClassId) (dI : Nat → Nat → Nat) (xo ra rb sm hh ps pb k rs : Nat) (cI : ClassId) (fA : Nat → Int32) (j : Nat) (v : Int32) (oa : Nat) (cJ : ClassId) (FO : Nat → Int) (sz : Nat) (zk1 : 1 ≤ k) (zk : k ≤ 8) (zj : j < 2 ^ k) : Met l yL_setA wsL_setA ({ frames := 3, cells := 0, slots := 0, locals := 64 }) (va_Pc [.ref xo, .int (nI j), .int v, .ref oa] (fun U => U.heap.size = sz ∧ va_P (dC, dI) vwCl [(xo, .inr (2, [.int (nI k), .ref ra, .ref rb, .int (nI rs), .ref sm, .ref hh, .ref ps, .ref pb])), (ra, .inl (cI, 256, .inl fA)), (oa, .inl (cJ, 1, .inr (.inl (fun t9 => lI (FO t9)))))] U.heap ∧ va_K (dC, dI) vwCl [(cI, .int), (cJ, .long)] U ∧ va_D (fun _ => True) [(xo, .inr (2, [.int (nI k), .ref ra, .ref rb, .int (nI rs), .ref sm, .ref hh, .ref ps, .ref pb])), (ra, .inl (cI, 256, .inl fA)), (oa, .inl (cJ, 1, .inr (.inl (fun t9 => lI (FO t9)))))])) (q_L_setA_ok dC dI xo ra rb sm hh ps pb k rs cI fA j v oa cJ FO (va_A [(xo, .inr (2, [.int (nI k), .ref ra, .ref rb, .int (nI rs), .ref sm, .ref hh, .ref ps, .ref pb])), (ra, .inl (cI, 256, .inl fA)), (oa, .inl (cJ, 1, .inr (.inl (fun t9 => lI (FO t9)))))] sz)) 0 0 (va_A [(xo, .inr (2, [.int (nI k), .ref ra, .ref rb, .int (nI rs), .ref sm, .ref hh, .ref ps, .ref pb])), (ra, .inl (cI, 256, .inl fA)), (oa, .inl (cJ, 1, .inr (.inl (fun t9 => lI (FO t9)))))] sz) := by
  refine va_MetW (cc := cL_setA) (maxL := 5) (ret := (some .int)) (hh := [(0, 10, 13, 19)]) (by decide) rfl ?_
  intro p e s m args below meth c s₁ B hml hv
  obtain ⟨rfl, hsz, hP, hK, hD0⟩ := hv
  have hx := B.exec
  have hb := B.bytes
  have hr := B.returns
  have hts := atoms_spec (ws := wsL_setA) B.pre
  have hown : s.vm.findClass RL = some m.cls := findClass_of_methodNamed B.named
  have hlocks := B.notSynchronized
  have htab := vx_table (x := yL_setA) B (hts (.codeWith yL_setA cL_setA 5 (some .int) [(0, 10, 13, 19)]) List.mem_cons_self)
  subst hsz
  have hD := hD0.self (sz := s.heap.size)
  generalize hAe : va_A [(xo, .inr (2, [.int (nI k), .ref ra, .ref rb, .int (nI rs), .ref sm, .ref hh, .ref ps, .ref pb])), (ra, .inl (cI, 256, .inl fA)), (oa, .inl (cJ, 1, .inr (.inl (fun t9 => lI (FO t9)))))] s.heap.size = A at hD ⊢
  have hA : ∀ q : Nat, s.heap.size ≤ q → A q := fun q h => by rw [← hAe]; exact Or.inr h
  have hS : va_S A s.heap s.heap [] := va_S.rf
  have hP : va_P (dC, dI) vwCl [(xo, .inr (2, [.int (nI k), .ref ra, .ref rb, .int (nI rs), .ref sm, .ref hh, .ref ps, .ref pb])), (ra, .inl (cI, 256, .inl fA)), (oa, .inl (cJ, 1, .inr (.inl (fun t9 => lI (FO t9)))))] s.heap := hP
  have hl := lv_entry (([.ref xo, .int (nI j), .int v, .ref oa] : List Value)) (n := 5) (Nat.le_of_ble_eq_true rfl)
  rw [lg_entry_eq]
  generalize (lg_sl (([.ref xo, .int (nI j), .int v, .ref oa] : List Value)) ++ List.replicate (5 - (lg_sl (([.ref xo, .int (nI j), .int v, .ref oa] : List Value))).length) Slot.unset).toArray = ls at hl ⊢
  have hl : lv_has ls 5 [(0, .ref xo), (1, .int (nI j)), (2, .int v), (3, .ref oa)] := hl
  obtain ⟨H, hHe⟩ : ∃ H : Heap, H = s.heap := ⟨_, rfl⟩
  rw [← hHe] at hP
  have hS : va_S A s.heap H [] := by rw [hHe]; exact hS
  obtain ⟨locs, hlo⟩ : ∃ L : List Loc, L = [] := ⟨_, rfl⟩
  rw [← hlo] at hS ⊢
  rw [← hHe]
  refine lv_aload_n hx hb dL_setA_0 rfl (lv_at hl 3 rfl) ?_
  refine lv_iconst (v := nI 0) hx hb dL_setA_1 (by decide) ?_
  refine lv_aload_n hx hb dL_setA_2 rfl (lv_at hl 0 rfl) ?_
  refine lv_iload_n hx hb dL_setA_3 rfl (lv_at hl 1 rfl) ?_
  refine lv_iload_n hx hb dL_setA_4 rfl (lv_at hl 2 rfl) ?_
  have hPc := hP.sub (ws' := [(xo, .inr (2, [.int (nI k), .ref ra, .ref rb, .int (nI rs), .ref sm, .ref hh, .ref ps, .ref pb])), (ra, .inl (cI, 256, .inl fA))]) [0, 1] rfl
  have hDc := hD.sub (ws' := [(xo, .inr (2, [.int (nI k), .ref ra, .ref rb, .int (nI rs), .ref sm, .ref hh, .ref ps, .ref pb])), (ra, .inl (cI, 256, .inl fA))]) [0, 1] (by decide) rfl
  have hKc := hK.sub (tys' := [(cI, .int)]) [0] rfl
  have hFc := va_free (wc := [(xo, .inr (2, [.int (nI k), .ref ra, .ref rb, .int (nI rs), .ref sm, .ref hh, .ref ps, .ref pb])), (ra, .inl (cI, 256, .inl fA))]) hD hS hA [0, 1] rfl
  refine va_calli (va_runV (As := [.int (nI j), .int v]) (rest := [.int (nI 0), .ref oa]) ⟨hx, hb, hml, hown, hts⟩ (c_X3_setA_ok l dC dI xo ra rb sm hh ps pb k rs cI fA j v H.size zk1 zk zj) (cwV 2 hts gL_setA_X3_setA rfl rfl rfl (by decide +kernel) ⟨Nat.le_of_ble_eq_true rfl, Nat.le_of_ble_eq_true rfl⟩) ⟨fun a U g mk q => by obtain ⟨q0, q1, qP, qK, qD⟩ := q; exact ⟨q0, q1, qP, va_K.moved (u := U) (U := U.calling g mk a) (Vm.Alike.refl U.vm) qK, qD⟩, va_recv hKc hPc (ci := 2) (q0 := 0) rfl rfl, fun U hU hW => ⟨rfl, by rw [hU], by rw [hU]; exact hPc, va_K.moved hW.alike hKc, hDc.weaken (fun _ _ _ _ => trivial)⟩⟩ rfl rfl hl.1 rfl (lv_room (Nat.le_of_ble_eq_true rfl)) dL_setA_5 ⟨Nat.le_of_ble_eq_true rfl, Nat.le_of_ble_eq_true rfl⟩) hS (fun q _ h => hFc q h) hFc (fun r9 u9 t9 H1 locs ht hvm hw hB hz1 hk1 hS => ?_)
  obtain ⟨hP1, hD1⟩ := hB
  rw [ht] at hP1
  try dsimp only at hw
  obtain ⟨hP, hD⟩ := va_join (wr := [(oa, .inl (cJ, 1, .inr (.inl (fun t9 => lI (FO t9)))))]) (w1 := [(xo, .inr (2, [.int (nI k), .ref ra, .ref rb, .int (nI rs), .ref sm, .ref hh, .ref ps, .ref pb])), (ra, .inl (cI, 256, .inl (upd fA j v)))]) hP hD [0, 1] [2] rfl rfl (by decide) (by decide) hk1 hFc hP1 hD1
  generalize H1 = H at hP hS ⊢
  have hP : va_P (dC, dI) vwCl [(oa, .inl (cJ, 1, .inr (.inl (fun t9 => lI (FO t9))))), (xo, .inr (2, [.int (nI k), .ref ra, .ref rb, .int (nI rs), .ref sm, .ref hh, .ref ps, .ref pb])), (ra, .inl (cI, 256, .inl (upd fA j v)))] H := hP
  have hD : va_D A [(oa, .inl (cJ, 1, .inr (.inl (fun t9 => lI (FO t9))))), (xo, .inr (2, [.int (nI k), .ref ra, .ref rb, .int (nI rs), .ref sm, .ref hh, .ref ps, .ref pb])), (ra, .inl (cI, 256, .inl (upd fA j v)))] := hD
  clear hPc hDc hKc hFc hP1 hD1 hk1 hz1 hvm ht
  subst hw
  refine lv_i2l (v := lI ((fA j).toInt)) hx hb dL_setA_8 (i2l_I (fA j)) ?_
  refine va_last hx hb hK hP hD hS 0 1 rfl rfl (vp_in_nI (by omega) (by omega)) dL_setA_9 (fun H locs hP hD hS => ?_)
  rw [nI_clamp (show 0 < 2 ^ 31 by omega)] at hP hD
  rw [upI_l] at hP hD
  have hP : va_P (dC, dI) vwCl [(oa, .inl (cJ, 1, .inr (.inl (fun t9 => lI ((upI FO 0 ((fA j).toInt)) t9))))), (xo, .inr (2, [.int (nI k), .ref ra, .ref rb, .int (nI rs), .ref sm, .ref hh, .ref ps, .ref pb])), (ra, .inl (cI, 256, .inl (upd fA j v)))] H := hP
  have hD : va_D A [(oa, .inl (cJ, 1, .inr (.inl (fun t9 => lI ((upI FO 0 ((fA j).toInt)) t9))))), (xo, .inr (2, [.int (nI k), .ref ra, .ref rb, .int (nI rs), .ref sm, .ref hh, .ref ps, .ref pb])), (ra, .inl (cI, 256, .inl (upd fA j v)))] := hD
  refine lv_goto (tgt := 17) hx hb dL_setA_10 (by decide) ?_
  refine lv_iconst (v := nI 0) hx hb dL_setA_17 (by decide) ?_
  have hP9 : va_P (dC, dI) vwCl [(xo, .inr (2, [.int (nI k), .ref ra, .ref rb, .int (nI rs), .ref sm, .ref hh, .ref ps, .ref pb])), (ra, .inl (cI, 256, .inl (upd fA j v))), (oa, .inl (cJ, 1, .inr (.inl (fun t9 => lI ((upI FO 0 ((fA j).toInt)) t9)))))] H := hP.sub [1, 2, 0] rfl
  have hD9 : va_D A [(xo, .inr (2, [.int (nI k), .ref ra, .ref rb, .int (nI rs), .ref sm, .ref hh, .ref ps, .ref pb])), (ra, .inl (cI, 256, .inl (upd fA j v))), (oa, .inl (cJ, 1, .inr (.inl (fun t9 => lI ((upI FO 0 ((fA j).toInt)) t9)))))] := hD.sub [1, 2, 0] (by decide) rfl
  exact W.iret (v := nI 0) hx hb hr (fun tq9 ht hW => ⟨⟨nI 0, (), rfl, rfl, by rw [ht]; exact hP9, hD9⟩, hS.F ht⟩) hS.2.2 dL_setA_18

abbrev q_L_setA_bad (dC : Nat → ClassId) (dI : Nat → Nat → Nat) (xo ra rb sm hh ps pb k rs : Nat) (i v : Int32) (oa : Nat) (A : Nat → Prop) : Array Value → State → Outcome → State → Prop := va_Qi (fun (r : Int32) (u : Unit) => r = nI 1) (fun u t => va_P (dC, dI) vwCl [(xo, .inr (2, [.int (nI k), .ref ra, .ref rb, .int (nI rs), .ref sm, .ref hh, .ref ps, .ref pb]))] t.heap ∧ va_D A [(xo, .inr (2, [.int (nI k), .ref ra, .ref rb, .int (nI rs), .ref sm, .ref hh, .ref ps, .ref pb]))]) A
set_option maxHeartbeats 4000000 in
set_option maxRecDepth 100000 in
theorem c_L_setA_bad (l : Launch) (dC : Nat → ClassId) (dI : Nat → Nat → Nat) (xo ra rb sm hh ps pb k rs : Nat) (i v : Int32) (oa : Nat) (sz : Nat) (tP : Nat) (sa : Nat → Nat) (hl9 : l.stackTraces = false) (zk1 : 1 ≤ k) (zk : k ≤ 8) (hbad : i < 0 ∨ nI (2 ^ k) ≤ i) : Met l yL_setA wsL_setA ({ frames := 8, cells := 1, slots := 6, locals := 126 }) (va_Pc [.ref xo, .int i, .int v, .ref oa] (fun U => U.heap.size = sz ∧ va_P (dC, dI) vwCl [(xo, .inr (2, [.int (nI k), .ref ra, .ref rb, .int (nI rs), .ref sm, .ref hh, .ref ps, .ref pb]))] U.heap ∧ va_K (dC, dI) vwCl [] U ∧ va_D (fun _ => True) [(xo, .inr (2, [.int (nI k), .ref ra, .ref rb, .int (nI rs), .ref sm, .ref hh, .ref ps, .ref pb]))] ∧ amb tP sa (va_A [(xo, .inr (2, [.int (nI k), .ref ra, .ref rb, .int (nI rs), .ref sm, .ref hh, .ref ps, .ref pb]))] sz) U U.heap)) (q_L_setA_bad dC dI xo ra rb sm hh ps pb k rs i v oa (va_A [(xo, .inr (2, [.int (nI k), .ref ra, .ref rb, .int (nI rs), .ref sm, .ref hh, .ref ps, .ref pb]))] sz)) 1 6 (va_A [(xo, .inr (2, [.int (nI k), .ref ra, .ref rb, .int (nI rs), .ref sm, .ref hh, .ref ps, .ref pb]))] sz) := by
  refine va_MetW (cc := cL_setA) (maxL := 5) (ret := (some .int)) (hh := [(0, 10, 13, 19)]) (by decide) rfl ?_
  intro p e s m args below meth c s₁ B hml hv
  obtain ⟨rfl, hsz, hP, hK, hD0, hM⟩ := hv
  have hx := B.exec
  have hb := B.bytes
  have hr := B.returns
  have hts := atoms_spec (ws := wsL_setA) B.pre
  have hown : s.vm.findClass RL = some m.cls := findClass_of_methodNamed B.named
  have hlocks := B.notSynchronized
  have htab := vx_table (x := yL_setA) B (hts (.codeWith yL_setA cL_setA 5 (some .int) [(0, 10, 13, 19)]) List.mem_cons_self)
  subst hsz
  have hD := hD0.self (sz := s.heap.size)
  generalize hAe : va_A [(xo, .inr (2, [.int (nI k), .ref ra, .ref rb, .int (nI rs), .ref sm, .ref hh, .ref ps, .ref pb]))] s.heap.size = A at hD hM ⊢
  have hA : ∀ q : Nat, s.heap.size ≤ q → A q := fun q h => by rw [← hAe]; exact Or.inr h
  have hS : va_S A s.heap s.heap [] := va_S.rf
  have hP : va_P (dC, dI) vwCl [(xo, .inr (2, [.int (nI k), .ref ra, .ref rb, .int (nI rs), .ref sm, .ref hh, .ref ps, .ref pb]))] s.heap := hP
  have hl := lv_entry (([.ref xo, .int i, .int v, .ref oa] : List Value)) (n := 5) (Nat.le_of_ble_eq_true rfl)
  rw [lg_entry_eq]
  generalize (lg_sl (([.ref xo, .int i, .int v, .ref oa] : List Value)) ++ List.replicate (5 - (lg_sl (([.ref xo, .int i, .int v, .ref oa] : List Value))).length) Slot.unset).toArray = ls at hl ⊢
  have hl : lv_has ls 5 [(0, .ref xo), (1, .int i), (2, .int v), (3, .ref oa)] := hl
  obtain ⟨H, hHe⟩ : ∃ H : Heap, H = s.heap := ⟨_, rfl⟩
  rw [← hHe] at hP
  have hS : va_S A s.heap H [] := by rw [hHe]; exact hS
  obtain ⟨locs, hlo⟩ : ∃ L : List Loc, L = [] := ⟨_, rfl⟩
  rw [← hlo] at hS ⊢
  rw [← hHe]
  refine lv_aload_n hx hb dL_setA_0 rfl (lv_at hl 3 rfl) ?_
  refine lv_iconst (v := nI 0) hx hb dL_setA_1 (by decide) ?_
  refine lv_aload_n hx hb dL_setA_2 rfl (lv_at hl 0 rfl) ?_
  refine lv_iload_n hx hb dL_setA_3 rfl (lv_at hl 1 rfl) ?_
  refine lv_iload_n hx hb dL_setA_4 rfl (lv_at hl 2 rfl) ?_
  have hPc := hP.sub (ws' := [(xo, .inr (2, [.int (nI k), .ref ra, .ref rb, .int (nI rs), .ref sm, .ref hh, .ref ps, .ref pb]))]) [0] rfl
  have hDc := hD.sub (ws' := [(xo, .inr (2, [.int (nI k), .ref ra, .ref rb, .int (nI rs), .ref sm, .ref hh, .ref ps, .ref pb]))]) [0] (by decide) rfl
  have hKc := hK.sub (tys' := []) [] rfl
  have hFc := va_free (wc := [(xo, .inr (2, [.int (nI k), .ref ra, .ref rb, .int (nI rs), .ref sm, .ref hh, .ref ps, .ref pb]))]) hD hS hA [0] rfl
  refine vx_calli (vx_runV (As := [.int i, .int v]) (rest := [.int (nI 0), .ref oa]) ⟨hx, hb, hml, hown, hts⟩ (c_X3_setA_bad l dC dI xo ra rb sm hh ps pb k rs i v H.size hl9 tP sa zk1 zk hbad) (cwV 2 hts gL_setA_X3_setA rfl rfl rfl (by decide +kernel) ⟨Nat.le_of_ble_eq_true rfl, Nat.le_of_ble_eq_true rfl⟩) ⟨fun a U g mk q => by obtain ⟨q0, q1, qP, qK, qD, qM⟩ := q; exact ⟨q0, q1, qP, va_K.moved (u := U) (U := U.calling g mk a) (Vm.Alike.refl U.vm) qK, qD, amb_same (U := U) (U' := U.calling g mk a) rfl rfl qM⟩, va_recv hKc hPc (ci := 2) (q0 := 0) rfl rfl, fun U hU hW => ⟨rfl, by rw [hU], by rw [hU]; exact hPc, va_K.moved hW.alike hKc, hDc.weaken (fun _ _ _ _ => trivial), amb_pass hM hS hFc hW hU⟩⟩ rfl rfl hl.1 rfl (lv_room (Nat.le_of_ble_eq_true rfl)) dL_setA_5 ⟨Nat.le_of_ble_eq_true rfl, Nat.le_of_ble_eq_true rfl⟩) hS (fun q _ h => hFc q h) hFc (fun q _ h => hFc q h) (fun E9 ce9 q9 u9 t9 H1 locs ht hvm hw hB hz1 hk1 hS hce hcv hcl => ?_) (fun r9 u9 t9 H1 locs ht hvm hw hB hz1 hk1 hS => ?_)
  · obtain ⟨hxp, hP1, hD1⟩ := hB
    rw [ht] at hP1
    obtain ⟨hP, hD⟩ := va_join (wr := []) (w1 := [(xo, .inr (2, [.int (nI k), .ref ra, .ref rb, .int (nI rs), .ref sm, .ref hh, .ref ps, .ref pb]))]) hP hD [0] [] rfl rfl (by decide) (by decide) hk1 hFc hP1 hD1
    subst hxp
    refine vx_catch (own := RL) (name := "java/lang/IndexOutOfBoundsException") hown [] ⟨0, 10, 13, 19⟩ [] (htab.trans rfl) (fun z hz => (List.not_mem_nil hz).elim) (by decide) (by decide) (hts (.classLink RL 19 "java/lang/IndexOutOfBoundsException") (by decide +kernel)) (va_tabs rfl rfl (hM.2.2.1 (.castable "java/lang/IndexOutOfBoundsException" "java/lang/IndexOutOfBoundsException") (by decide +kernel))) hce hcv hcl ?_
    clear hce
    generalize H1 = H at hP hS ⊢
    have hP : va_P (dC, dI) vwCl [(xo, .inr (2, [.int (nI k), .ref ra, .ref rb, .int (nI rs), .ref sm, .ref hh, .ref ps, .ref pb]))] H := hP
    have hD : va_D A [(xo, .inr (2, [.int (nI k), .ref ra, .ref rb, .int (nI rs), .ref sm, .ref hh, .ref ps, .ref pb]))] := hD
    refine W.widen (k := 1) (n := 6) (by omega) (by omega) ?_
    refine W.eq (g2 := F0 m 13 ls [.ref q9]) rfl ?_
    refine lv_astore (lv' := [(4, .ref q9), (0, .ref xo), (1, .int i), (2, .int v), (3, .ref oa)]) hx hb dL_setA_13 hl (by decide) rfl (fun ls hl => ?_)
    refine lv_iconst (v := nI 1) hx hb dL_setA_15 (by decide) ?_
    have hP9 : va_P (dC, dI) vwCl [(xo, .inr (2, [.int (nI k), .ref ra, .ref rb, .int (nI rs), .ref sm, .ref hh, .ref ps, .ref pb]))] H := hP.sub [0] rfl
    have hD9 : va_D A [(xo, .inr (2, [.int (nI k), .ref ra, .ref rb, .int (nI rs), .ref sm, .ref hh, .ref ps, .ref pb]))] := hD.sub [0] (by decide) rfl
    exact W.iret (v := nI 1) hx hb hr (fun tq9 ht hW => ⟨⟨nI 1, (), rfl, rfl, by rw [ht]; exact hP9, hD9⟩, hS.F ht⟩) hS.2.2 dL_setA_16
  exact hw.elim

abbrev q_L_setB_ok (dC : Nat → ClassId) (dI : Nat → Nat → Nat) (xo ra rb sm hh ps pb k rs : Nat) (cI : ClassId) (fB : Nat → Int32) (j : Nat) (v : Int32) (oa : Nat) (cJ : ClassId) (FO : Nat → Int) (A : Nat → Prop) : Array Value → State → Outcome → State → Prop := va_Qi (fun (r : Int32) (u : Unit) => r = nI 0) (fun u t => va_P (dC, dI) vwCl [(xo, .inr (2, [.int (nI k), .ref ra, .ref rb, .int (nI rs), .ref sm, .ref hh, .ref ps, .ref pb])), (rb, .inl (cI, 256, .inl (upd fB j v))), (oa, .inl (cJ, 1, .inr (.inl (fun t9 => lI ((upI FO 0 ((fB j).toInt)) t9)))))] t.heap ∧ va_D A [(xo, .inr (2, [.int (nI k), .ref ra, .ref rb, .int (nI rs), .ref sm, .ref hh, .ref ps, .ref pb])), (rb, .inl (cI, 256, .inl (upd fB j v))), (oa, .inl (cJ, 1, .inr (.inl (fun t9 => lI ((upI FO 0 ((fB j).toInt)) t9)))))]) A
set_option maxHeartbeats 4000000 in
set_option maxRecDepth 100000 in
theorem c_L_setB_ok (l : Launch) (dC : Nat → ClassId) (dI : Nat → Nat → Nat) (xo ra rb sm hh ps pb k rs : Nat) (cI : ClassId) (fB : Nat → Int32) (j : Nat) (v : Int32) (oa : Nat) (cJ : ClassId) (FO : Nat → Int) (sz : Nat) (zk1 : 1 ≤ k) (zk : k ≤ 8) (zj : j < 2 ^ k) : Met l yL_setB wsL_setB ({ frames := 3, cells := 0, slots := 0, locals := 64 }) (va_Pc [.ref xo, .int (nI j), .int v, .ref oa] (fun U => U.heap.size = sz ∧ va_P (dC, dI) vwCl [(xo, .inr (2, [.int (nI k), .ref ra, .ref rb, .int (nI rs), .ref sm, .ref hh, .ref ps, .ref pb])), (rb, .inl (cI, 256, .inl fB)), (oa, .inl (cJ, 1, .inr (.inl (fun t9 => lI (FO t9)))))] U.heap ∧ va_K (dC, dI) vwCl [(cI, .int), (cJ, .long)] U ∧ va_D (fun _ => True) [(xo, .inr (2, [.int (nI k), .ref ra, .ref rb, .int (nI rs), .ref sm, .ref hh, .ref ps, .ref pb])), (rb, .inl (cI, 256, .inl fB)), (oa, .inl (cJ, 1, .inr (.inl (fun t9 => lI (FO t9)))))])) (q_L_setB_ok dC dI xo ra rb sm hh ps pb k rs cI fB j v oa cJ FO (va_A [(xo, .inr (2, [.int (nI k), .ref ra, .ref rb, .int (nI rs), .ref sm, .ref hh, .ref ps, .ref pb])), (rb, .inl (cI, 256, .inl fB)), (oa, .inl (cJ, 1, .inr (.inl (fun t9 => lI (FO t9)))))] sz)) 0 0 (va_A [(xo, .inr (2, [.int (nI k), .ref ra, .ref rb, .int (nI rs), .ref sm, .ref hh, .ref ps, .ref pb])), (rb, .inl (cI, 256, .inl fB)), (oa, .inl (cJ, 1, .inr (.inl (fun t9 => lI (FO t9)))))] sz) := by
  refine va_MetW (cc := cL_setB) (maxL := 5) (ret := (some .int)) (hh := [(0, 10, 13, 19)]) (by decide) rfl ?_
  intro p e s m args below meth c s₁ B hml hv
  obtain ⟨rfl, hsz, hP, hK, hD0⟩ := hv
  have hx := B.exec
  have hb := B.bytes
  have hr := B.returns
  have hts := atoms_spec (ws := wsL_setB) B.pre
  have hown : s.vm.findClass RL = some m.cls := findClass_of_methodNamed B.named
  have hlocks := B.notSynchronized
  have htab := vx_table (x := yL_setB) B (hts (.codeWith yL_setB cL_setB 5 (some .int) [(0, 10, 13, 19)]) List.mem_cons_self)
  subst hsz
  have hD := hD0.self (sz := s.heap.size)
  generalize hAe : va_A [(xo, .inr (2, [.int (nI k), .ref ra, .ref rb, .int (nI rs), .ref sm, .ref hh, .ref ps, .ref pb])), (rb, .inl (cI, 256, .inl fB)), (oa, .inl (cJ, 1, .inr (.inl (fun t9 => lI (FO t9)))))] s.heap.size = A at hD ⊢
  have hA : ∀ q : Nat, s.heap.size ≤ q → A q := fun q h => by rw [← hAe]; exact Or.inr h
  have hS : va_S A s.heap s.heap [] := va_S.rf
  have hP : va_P (dC, dI) vwCl [(xo, .inr (2, [.int (nI k), .ref ra, .ref rb, .int (nI rs), .ref sm, .ref hh, .ref ps, .ref pb])), (rb, .inl (cI, 256, .inl fB)), (oa, .inl (cJ, 1, .inr (.inl (fun t9 => lI (FO t9)))))] s.heap := hP
  have hl := lv_entry (([.ref xo, .int (nI j), .int v, .ref oa] : List Value)) (n := 5) (Nat.le_of_ble_eq_true rfl)
  rw [lg_entry_eq]
  generalize (lg_sl (([.ref xo, .int (nI j), .int v, .ref oa] : List Value)) ++ List.replicate (5 - (lg_sl (([.ref xo, .int (nI j), .int v, .ref oa] : List Value))).length) Slot.unset).toArray = ls at hl ⊢
  have hl : lv_has ls 5 [(0, .ref xo), (1, .int (nI j)), (2, .int v), (3, .ref oa)] := hl
  obtain ⟨H, hHe⟩ : ∃ H : Heap, H = s.heap := ⟨_, rfl⟩
  rw [← hHe] at hP
  have hS : va_S A s.heap H [] := by rw [hHe]; exact hS
  obtain ⟨locs, hlo⟩ : ∃ L : List Loc, L = [] := ⟨_, rfl⟩
  rw [← hlo] at hS ⊢
  rw [← hHe]
  refine lv_aload_n hx hb dL_setB_0 rfl (lv_at hl 3 rfl) ?_
  refine lv_iconst (v := nI 0) hx hb dL_setB_1 (by decide) ?_
  refine lv_aload_n hx hb dL_setB_2 rfl (lv_at hl 0 rfl) ?_
  refine lv_iload_n hx hb dL_setB_3 rfl (lv_at hl 1 rfl) ?_
  refine lv_iload_n hx hb dL_setB_4 rfl (lv_at hl 2 rfl) ?_
  have hPc := hP.sub (ws' := [(xo, .inr (2, [.int (nI k), .ref ra, .ref rb, .int (nI rs), .ref sm, .ref hh, .ref ps, .ref pb])), (rb, .inl (cI, 256, .inl fB))]) [0, 1] rfl
  have hDc := hD.sub (ws' := [(xo, .inr (2, [.int (nI k), .ref ra, .ref rb, .int (nI rs), .ref sm, .ref hh, .ref ps, .ref pb])), (rb, .inl (cI, 256, .inl fB))]) [0, 1] (by decide) rfl
  have hKc := hK.sub (tys' := [(cI, .int)]) [0] rfl
  have hFc := va_free (wc := [(xo, .inr (2, [.int (nI k), .ref ra, .ref rb, .int (nI rs), .ref sm, .ref hh, .ref ps, .ref pb])), (rb, .inl (cI, 256, .inl fB))]) hD hS hA [0, 1] rfl
  refine va_calli (va_runV (As := [.int (nI j), .int v]) (rest := [.int (nI 0), .ref oa]) ⟨hx, hb, hml, hown, hts⟩ (c_X3_setB_ok l dC dI xo ra rb sm hh ps pb k rs cI fB j v H.size zk1 zk zj) (cwV 2 hts gL_setB_X3_setB rfl rfl rfl (by decide +kernel) ⟨Nat.le_of_ble_eq_true rfl, Nat.le_of_ble_eq_true rfl⟩) ⟨fun a U g mk q => by obtain ⟨q0, q1, qP, qK, qD⟩ := q; exact ⟨q0, q1, qP, va_K.moved (u := U) (U := U.calling g mk a) (Vm.Alike.refl U.vm) qK, qD⟩, va_recv hKc hPc (ci := 2) (q0 := 0) rfl rfl, fun U hU hW => ⟨rfl, by rw [hU], by rw [hU]; exact hPc, va_K.moved hW.alike hKc, hDc.weaken (fun _ _ _ _ => trivial)⟩⟩ rfl rfl hl.1 rfl (lv_room (Nat.le_of_ble_eq_true rfl)) dL_setB_5 ⟨Nat.le_of_ble_eq_true rfl, Nat.le_of_ble_eq_true rfl⟩) hS (fun q _ h => hFc q h) hFc (fun r9 u9 t9 H1 locs ht hvm hw hB hz1 hk1 hS => ?_)
  obtain ⟨hP1, hD1⟩ := hB
  rw [ht] at hP1
  try dsimp only at hw
  obtain ⟨hP, hD⟩ := va_join (wr := [(oa, .inl (cJ, 1, .inr (.inl (fun t9 => lI (FO t9)))))]) (w1 := [(xo, .inr (2, [.int (nI k), .ref ra, .ref rb, .int (nI rs), .ref sm, .ref hh, .ref ps, .ref pb])), (rb, .inl (cI, 256, .inl (upd fB j v)))]) hP hD [0, 1] [2] rfl rfl (by decide) (by decide) hk1 hFc hP1 hD1
  generalize H1 = H at hP hS ⊢
  have hP : va_P (dC, dI) vwCl [(oa, .inl (cJ, 1, .inr (.inl (fun t9 => lI (FO t9))))), (xo, .inr (2, [.int (nI k), .ref ra, .ref rb, .int (nI rs), .ref sm, .ref hh, .ref ps, .ref pb])), (rb, .inl (cI, 256, .inl (upd fB j v)))] H := hP
  have hD : va_D A [(oa, .inl (cJ, 1, .inr (.inl (fun t9 => lI (FO t9))))), (xo, .inr (2, [.int (nI k), .ref ra, .ref rb, .int (nI rs), .ref sm, .ref hh, .ref ps, .ref pb])), (rb, .inl (cI, 256, .inl (upd fB j v)))] := hD
  clear hPc hDc hKc hFc hP1 hD1 hk1 hz1 hvm ht
  subst hw
  refine lv_i2l (v := lI ((fB j).toInt)) hx hb dL_setB_8 (i2l_I (fB j)) ?_
  refine va_last hx hb hK hP hD hS 0 1 rfl rfl (vp_in_nI (by omega) (by omega)) dL_setB_9 (fun H locs hP hD hS => ?_)
  rw [nI_clamp (show 0 < 2 ^ 31 by omega)] at hP hD
  rw [upI_l] at hP hD
  have hP : va_P (dC, dI) vwCl [(oa, .inl (cJ, 1, .inr (.inl (fun t9 => lI ((upI FO 0 ((fB j).toInt)) t9))))), (xo, .inr (2, [.int (nI k), .ref ra, .ref rb, .int (nI rs), .ref sm, .ref hh, .ref ps, .ref pb])), (rb, .inl (cI, 256, .inl (upd fB j v)))] H := hP
  have hD : va_D A [(oa, .inl (cJ, 1, .inr (.inl (fun t9 => lI ((upI FO 0 ((fB j).toInt)) t9))))), (xo, .inr (2, [.int (nI k), .ref ra, .ref rb, .int (nI rs), .ref sm, .ref hh, .ref ps, .ref pb])), (rb, .inl (cI, 256, .inl (upd fB j v)))] := hD
  refine lv_goto (tgt := 17) hx hb dL_setB_10 (by decide) ?_
  refine lv_iconst (v := nI 0) hx hb dL_setB_17 (by decide) ?_
  have hP9 : va_P (dC, dI) vwCl [(xo, .inr (2, [.int (nI k), .ref ra, .ref rb, .int (nI rs), .ref sm, .ref hh, .ref ps, .ref pb])), (rb, .inl (cI, 256, .inl (upd fB j v))), (oa, .inl (cJ, 1, .inr (.inl (fun t9 => lI ((upI FO 0 ((fB j).toInt)) t9)))))] H := hP.sub [1, 2, 0] rfl
  have hD9 : va_D A [(xo, .inr (2, [.int (nI k), .ref ra, .ref rb, .int (nI rs), .ref sm, .ref hh, .ref ps, .ref pb])), (rb, .inl (cI, 256, .inl (upd fB j v))), (oa, .inl (cJ, 1, .inr (.inl (fun t9 => lI ((upI FO 0 ((fB j).toInt)) t9)))))] := hD.sub [1, 2, 0] (by decide) rfl
  exact W.iret (v := nI 0) hx hb hr (fun tq9 ht hW => ⟨⟨nI 0, (), rfl, rfl, by rw [ht]; exact hP9, hD9⟩, hS.F ht⟩) hS.2.2 dL_setB_18

abbrev q_L_setB_bad (dC : Nat → ClassId) (dI : Nat → Nat → Nat) (xo ra rb sm hh ps pb k rs : Nat) (i v : Int32) (oa : Nat) (A : Nat → Prop) : Array Value → State → Outcome → State → Prop := va_Qi (fun (r : Int32) (u : Unit) => r = nI 1) (fun u t => va_P (dC, dI) vwCl [(xo, .inr (2, [.int (nI k), .ref ra, .ref rb, .int (nI rs), .ref sm, .ref hh, .ref ps, .ref pb]))] t.heap ∧ va_D A [(xo, .inr (2, [.int (nI k), .ref ra, .ref rb, .int (nI rs), .ref sm, .ref hh, .ref ps, .ref pb]))]) A
set_option maxHeartbeats 4000000 in
set_option maxRecDepth 100000 in
theorem c_L_setB_bad (l : Launch) (dC : Nat → ClassId) (dI : Nat → Nat → Nat) (xo ra rb sm hh ps pb k rs : Nat) (i v : Int32) (oa : Nat) (sz : Nat) (tP : Nat) (sa : Nat → Nat) (hl9 : l.stackTraces = false) (zk1 : 1 ≤ k) (zk : k ≤ 8) (hbad : i < 0 ∨ nI (2 ^ k) ≤ i) : Met l yL_setB wsL_setB ({ frames := 8, cells := 1, slots := 6, locals := 126 }) (va_Pc [.ref xo, .int i, .int v, .ref oa] (fun U => U.heap.size = sz ∧ va_P (dC, dI) vwCl [(xo, .inr (2, [.int (nI k), .ref ra, .ref rb, .int (nI rs), .ref sm, .ref hh, .ref ps, .ref pb]))] U.heap ∧ va_K (dC, dI) vwCl [] U ∧ va_D (fun _ => True) [(xo, .inr (2, [.int (nI k), .ref ra, .ref rb, .int (nI rs), .ref sm, .ref hh, .ref ps, .ref pb]))] ∧ amb tP sa (va_A [(xo, .inr (2, [.int (nI k), .ref ra, .ref rb, .int (nI rs), .ref sm, .ref hh, .ref ps, .ref pb]))] sz) U U.heap)) (q_L_setB_bad dC dI xo ra rb sm hh ps pb k rs i v oa (va_A [(xo, .inr (2, [.int (nI k), .ref ra, .ref rb, .int (nI rs), .ref sm, .ref hh, .ref ps, .ref pb]))] sz)) 1 6 (va_A [(xo, .inr (2, [.int (nI k), .ref ra, .ref rb, .int (nI rs), .ref sm, .ref hh, .ref ps, .ref pb]))] sz) := by
  refine va_MetW (cc := cL_setB) (maxL := 5) (ret := (some .int)) (hh := [(0, 10, 13, 19)]) (by decide) rfl ?_
  intro p e s m args below meth c s₁ B hml hv
  obtain ⟨rfl, hsz, hP, hK, hD0, hM⟩ := hv
  have hx := B.exec
  have hb := B.bytes
  have hr := B.returns
  have hts := atoms_spec (ws := wsL_setB) B.pre
  have hown : s.vm.findClass RL = some m.cls := findClass_of_methodNamed B.named
  have hlocks := B.notSynchronized
  have htab := vx_table (x := yL_setB) B (hts (.codeWith yL_setB cL_setB 5 (some .int) [(0, 10, 13, 19)]) List.mem_cons_self)
  subst hsz
  have hD := hD0.self (sz := s.heap.size)
  generalize hAe : va_A [(xo, .inr (2, [.int (nI k), .ref ra, .ref rb, .int (nI rs), .ref sm, .ref hh, .ref ps, .ref pb]))] s.heap.size = A at hD hM ⊢
  have hA : ∀ q : Nat, s.heap.size ≤ q → A q := fun q h => by rw [← hAe]; exact Or.inr h
  have hS : va_S A s.heap s.heap [] := va_S.rf
  have hP : va_P (dC, dI) vwCl [(xo, .inr (2, [.int (nI k), .ref ra, .ref rb, .int (nI rs), .ref sm, .ref hh, .ref ps, .ref pb]))] s.heap := hP
  have hl := lv_entry (([.ref xo, .int i, .int v, .ref oa] : List Value)) (n := 5) (Nat.le_of_ble_eq_true rfl)
  rw [lg_entry_eq]
  generalize (lg_sl (([.ref xo, .int i, .int v, .ref oa] : List Value)) ++ List.replicate (5 - (lg_sl (([.ref xo, .int i, .int v, .ref oa] : List Value))).length) Slot.unset).toArray = ls at hl ⊢
  have hl : lv_has ls 5 [(0, .ref xo), (1, .int i), (2, .int v), (3, .ref oa)] := hl
  obtain ⟨H, hHe⟩ : ∃ H : Heap, H = s.heap := ⟨_, rfl⟩
  rw [← hHe] at hP
  have hS : va_S A s.heap H [] := by rw [hHe]; exact hS
  obtain ⟨locs, hlo⟩ : ∃ L : List Loc, L = [] := ⟨_, rfl⟩
  rw [← hlo] at hS ⊢
  rw [← hHe]
  refine lv_aload_n hx hb dL_setB_0 rfl (lv_at hl 3 rfl) ?_
  refine lv_iconst (v := nI 0) hx hb dL_setB_1 (by decide) ?_
  refine lv_aload_n hx hb dL_setB_2 rfl (lv_at hl 0 rfl) ?_
  refine lv_iload_n hx hb dL_setB_3 rfl (lv_at hl 1 rfl) ?_
  refine lv_iload_n hx hb dL_setB_4 rfl (lv_at hl 2 rfl) ?_
  have hPc := hP.sub (ws' := [(xo, .inr (2, [.int (nI k), .ref ra, .ref rb, .int (nI rs), .ref sm, .ref hh, .ref ps, .ref pb]))]) [0] rfl
  have hDc := hD.sub (ws' := [(xo, .inr (2, [.int (nI k), .ref ra, .ref rb, .int (nI rs), .ref sm, .ref hh, .ref ps, .ref pb]))]) [0] (by decide) rfl
  have hKc := hK.sub (tys' := []) [] rfl
  have hFc := va_free (wc := [(xo, .inr (2, [.int (nI k), .ref ra, .ref rb, .int (nI rs), .ref sm, .ref hh, .ref ps, .ref pb]))]) hD hS hA [0] rfl
  refine vx_calli (vx_runV (As := [.int i, .int v]) (rest := [.int (nI 0), .ref oa]) ⟨hx, hb, hml, hown, hts⟩ (c_X3_setB_bad l dC dI xo ra rb sm hh ps pb k rs i v H.size hl9 tP sa zk1 zk hbad) (cwV 2 hts gL_setB_X3_setB rfl rfl rfl (by decide +kernel) ⟨Nat.le_of_ble_eq_true rfl, Nat.le_of_ble_eq_true rfl⟩) ⟨fun a U g mk q => by obtain ⟨q0, q1, qP, qK, qD, qM⟩ := q; exact ⟨q0, q1, qP, va_K.moved (u := U) (U := U.calling g mk a) (Vm.Alike.refl U.vm) qK, qD, amb_same (U := U) (U' := U.calling g mk a) rfl rfl qM⟩, va_recv hKc hPc (ci := 2) (q0 := 0) rfl rfl, fun U hU hW => ⟨rfl, by rw [hU], by rw [hU]; exact hPc, va_K.moved hW.alike hKc, hDc.weaken (fun _ _ _ _ => trivial), amb_pass hM hS hFc hW hU⟩⟩ rfl rfl hl.1 rfl (lv_room (Nat.le_of_ble_eq_true rfl)) dL_setB_5 ⟨Nat.le_of_ble_eq_true rfl, Nat.le_of_ble_eq_true rfl⟩) hS (fun q _ h => hFc q h) hFc (fun q _ h => hFc q h) (fun E9 ce9 q9 u9 t9 H1 locs ht hvm hw hB hz1 hk1 hS hce hcv hcl => ?_) (fun r9 u9 t9 H1 locs ht hvm hw hB hz1 hk1 hS => ?_)
  · obtain ⟨hxp, hP1, hD1⟩ := hB
    rw [ht] at hP1
    obtain ⟨hP, hD⟩ := va_join (wr := []) (w1 := [(xo, .inr (2, [.int (nI k), .ref ra, .ref rb, .int (nI rs), .ref sm, .ref hh, .ref ps, .ref pb]))]) hP hD [0] [] rfl rfl (by decide) (by decide) hk1 hFc hP1 hD1
    subst hxp
    refine vx_catch (own := RL) (name := "java/lang/IndexOutOfBoundsException") hown [] ⟨0, 10, 13, 19⟩ [] (htab.trans rfl) (fun z hz => (List.not_mem_nil hz).elim) (by decide) (by decide) (hts (.classLink RL 19 "java/lang/IndexOutOfBoundsException") (by decide +kernel)) (va_tabs rfl rfl (hM.2.2.1 (.castable "java/lang/IndexOutOfBoundsException" "java/lang/IndexOutOfBoundsException") (by decide +kernel))) hce hcv hcl ?_
    clear hce
    generalize H1 = H at hP hS ⊢
    have hP : va_P (dC, dI) vwCl [(xo, .inr (2, [.int (nI k), .ref ra, .ref rb, .int (nI rs), .ref sm, .ref hh, .ref ps, .ref pb]))] H := hP
    have hD : va_D A [(xo, .inr (2, [.int (nI k), .ref ra, .ref rb, .int (nI rs), .ref sm, .ref hh, .ref ps, .ref pb]))] := hD
    refine W.widen (k := 1) (n := 6) (by omega) (by omega) ?_
    refine W.eq (g2 := F0 m 13 ls [.ref q9]) rfl ?_
    refine lv_astore (lv' := [(4, .ref q9), (0, .ref xo), (1, .int i), (2, .int v), (3, .ref oa)]) hx hb dL_setB_13 hl (by decide) rfl (fun ls hl => ?_)
    refine lv_iconst (v := nI 1) hx hb dL_setB_15 (by decide) ?_
    have hP9 : va_P (dC, dI) vwCl [(xo, .inr (2, [.int (nI k), .ref ra, .ref rb, .int (nI rs), .ref sm, .ref hh, .ref ps, .ref pb]))] H := hP.sub [0] rfl
    have hD9 : va_D A [(xo, .inr (2, [.int (nI k), .ref ra, .ref rb, .int (nI rs), .ref sm, .ref hh, .ref ps, .ref pb]))] := hD.sub [0] (by decide) rfl
    exact W.iret (v := nI 1) hx hb hr (fun tq9 ht hW => ⟨⟨nI 1, (), rfl, rfl, by rw [ht]; exact hP9, hD9⟩, hS.F ht⟩) hS.2.2 dL_setB_16
  exact hw.elim

abbrev q_L_a_ok (dC : Nat → ClassId) (dI : Nat → Nat → Nat) (xo ra rb sm hh ps pb k rs : Nat) (cI : ClassId) (fA : Nat → Int32) (j : Nat) (oa : Nat) (cJ : ClassId) (FO : Nat → Int) (A : Nat → Prop) : Array Value → State → Outcome → State → Prop := va_Qi (fun (r : Int32) (u : Unit) => r = nI 0) (fun u t => va_P (dC, dI) vwCl [(xo, .inr (2, [.int (nI k), .ref ra, .ref rb, .int (nI rs), .ref sm, .ref hh, .ref ps, .ref pb])), (ra, .inl (cI, 256, .inl fA)), (oa, .inl (cJ, 1, .inr (.inl (fun t9 => lI ((upI FO 0 ((fA j).toInt)) t9)))))] t.heap ∧ va_D A [(xo, .inr (2, [.int (nI k), .ref ra, .ref rb, .int (nI rs), .ref sm, .ref hh, .ref ps, .ref pb])), (ra, .inl (cI, 256, .inl fA)), (oa, .inl (cJ, 1, .inr (.inl (fun t9 => lI ((upI FO 0 ((fA j).toInt)) t9)))))]) A
set_option maxHeartbeats 4000000 in
set_option maxRecDepth 100000 in
theorem c_L_a_ok (l : Launch) (dC : Nat → ClassId) (dI : Nat → Nat → Nat) (xo ra rb sm hh ps pb k rs : Nat) (cI : ClassId) (fA : Nat → Int32) (j : Nat) (oa : Nat) (cJ : ClassId) (FO : Nat → Int) (sz : Nat) (zk1 : 1 ≤ k) (zk : k ≤ 8) (zj : j < 2 ^ k) : Met l yL_a wsL_a ({ frames := 3, cells := 0, slots := 0, locals := 62 }) (va_Pc [.ref xo, .int (nI j), .ref oa] (fun U => U.heap.size = sz ∧ va_P (dC, dI) vwCl [(xo, .inr (2, [.int (nI k), .ref ra, .ref rb, .int (nI rs), .ref sm, .ref hh, .ref ps, .ref pb])), (ra, .inl (cI, 256, .inl fA)), (oa, .inl (cJ, 1, .inr (.inl (fun t9 => lI (FO t9)))))] U.heap ∧ va_K (dC, dI) vwCl [(cI, .int), (cJ, .long)] U ∧ va_D (fun _ => True) [(xo, .inr (2, [.int (nI k), .ref ra, .ref rb, .int (nI rs), .ref sm, .ref hh, .ref ps, .ref pb])), (ra, .inl (cI, 256, .inl fA)), (oa, .inl (cJ, 1, .inr (.inl (fun t9 => lI (FO t9)))))])) (q_L_a_ok dC dI xo ra rb sm hh ps pb k rs cI fA j oa cJ FO (va_A [(xo, .inr (2, [.int (nI k), .ref ra, .ref rb, .int (nI rs), .ref sm, .ref hh, .ref ps, .ref pb])), (ra, .inl (cI, 256, .inl fA)), (oa, .inl (cJ, 1, .inr (.inl (fun t9 => lI (FO t9)))))] sz)) 0 0 (va_A [(xo, .inr (2, [.int (nI k), .ref ra, .ref rb, .int (nI rs), .ref sm, .ref hh, .ref ps, .ref pb])), (ra, .inl (cI, 256, .inl fA)), (oa, .inl (cJ, 1, .inr (.inl (fun t9 => lI (FO t9)))))] sz) := by
  refine va_MetW (cc := cL_a) (maxL := 4) (ret := (some .int)) (hh := [(0, 9, 12, 19)]) (by decide) rfl ?_
  intro p e s m args below meth c s₁ B hml hv
  obtain ⟨rfl, hsz, hP, hK, hD0⟩ := hv
  have hx := B.exec
  have hb := B.bytes
  have hr := B.returns
  have hts := atoms_spec (ws := wsL_a) B.pre
  have hown : s.vm.findClass RL = some m.cls := findClass_of_methodNamed B.named
  have hlocks := B.notSynchronized
  have htab := vx_table (x := yL_a) B (hts (.codeWith yL_a cL_a 4 (some .int) [(0, 9, 12, 19)]) List.mem_cons_self)
  subst hsz
  have hD := hD0.self (sz := s.heap.size)
  generalize hAe : va_A [(xo, .inr (2, [.int (nI k), .ref ra, .ref rb, .int (nI rs), .ref sm, .ref hh, .ref ps, .ref pb])), (ra, .inl (cI, 256, .inl fA)), (oa, .inl (cJ, 1, .inr (.inl (fun t9 => lI (FO t9)))))] s.heap.size = A at hD ⊢
  have hA : ∀ q : Nat, s.heap.size ≤ q → A q := fun q h => by rw [← hAe]; exact Or.inr h
  have hS : va_S A s.heap s.heap [] := va_S.rf
  have hP : va_P (dC, dI) vwCl [(xo, .inr (2, [.int (nI k), .ref ra, .ref rb, .int (nI rs), .ref sm, .ref hh, .ref ps, .ref pb])), (ra, .inl (cI, 256, .inl fA)), (oa, .inl (cJ, 1, .inr (.inl (fun t9 => lI (FO t9)))))] s.heap := hP
  have hl := lv_entry (([.ref xo, .int (nI j), .ref oa] : List Value)) (n := 4) (Nat.le_of_ble_eq_true rfl)
  rw [lg_entry_eq]
  generalize (lg_sl (([.ref xo, .int (nI j), .ref oa] : List Value)) ++ List.replicate (4 - (lg_sl (([.ref xo, .int (nI j), .ref oa] : List Value))).length) Slot.unset).toArray = ls at hl ⊢
  have hl : lv_has ls 4 [(0, .ref xo), (1, .int (nI j)), (2, .ref oa)] := hl
  obtain ⟨H, hHe⟩ : ∃ H : Heap, H = s.heap := ⟨_, rfl⟩
  rw [← hHe] at hP
  have hS : va_S A s.heap H [] := by rw [hHe]; exact hS
  obtain ⟨locs, hlo⟩ : ∃ L : List Loc, L = [] := ⟨_, rfl⟩
  rw [← hlo] at hS ⊢
  rw [← hHe]
  refine lv_aload_n hx hb dL_a_0 rfl (lv_at hl 2 rfl) ?_
  refine lv_iconst (v := nI 0) hx hb dL_a_1 (by decide) ?_
  refine lv_aload_n hx hb dL_a_2 rfl (lv_at hl 0 rfl) ?_
  refine lv_iload_n hx hb dL_a_3 rfl (lv_at hl 1 rfl) ?_
  have hPc := hP.sub (ws' := [(xo, .inr (2, [.int (nI k), .ref ra, .ref rb, .int (nI rs), .ref sm, .ref hh, .ref ps, .ref pb])), (ra, .inl (cI, 256, .inl fA))]) [0, 1] rfl
  have hDc := hD.sub (ws' := [(xo, .inr (2, [.int (nI k), .ref ra, .ref rb, .int (nI rs), .ref sm, .ref hh, .ref ps, .ref pb])), (ra, .inl (cI, 256, .inl fA))]) [0, 1] (by decide) rfl
  have hKc := hK.sub (tys' := [(cI, .int)]) [0] rfl
  have hFc := va_free (wc := [(xo, .inr (2, [.int (nI k), .ref ra, .ref rb, .int (nI rs), .ref sm, .ref hh, .ref ps, .ref pb])), (ra, .inl (cI, 256, .inl fA))]) hD hS hA [0, 1] rfl
  refine va_calli (va_runV (As := [.int (nI j)]) (rest := [.int (nI 0), .ref oa]) ⟨hx, hb, hml, hown, hts⟩ (c_X3_a_ok l dC dI xo ra rb sm hh ps pb k rs cI fA j H.size zk1 zk zj) (cwV 1 hts gL_a_X3_a rfl rfl rfl (by decide +kernel) ⟨Nat.le_of_ble_eq_true rfl, Nat.le_of_ble_eq_true rfl⟩) ⟨fun a U g mk q => by obtain ⟨q0, q1, qP, qK, qD⟩ := q; exact ⟨q0, q1, qP, va_K.moved (u := U) (U := U.calling g mk a) (Vm.Alike.refl U.vm) qK, qD⟩, va_recv hKc hPc (ci := 2) (q0 := 0) rfl rfl, fun U hU hW => ⟨rfl, by rw [hU], by rw [hU]; exact hPc, va_K.moved hW.alike hKc, hDc.weaken (fun _ _ _ _ => trivial)⟩⟩ rfl rfl hl.1 rfl (lv_room (Nat.le_of_ble_eq_true rfl)) dL_a_4 ⟨Nat.le_of_ble_eq_true rfl, Nat.le_of_ble_eq_true rfl⟩) hS (fun q _ h => hFc q h) hFc (fun r9 u9 t9 H1 locs ht hvm hw hB hz1 hk1 hS => ?_)
  obtain ⟨hP1, hD1⟩ := hB
  rw [ht] at hP1
  try dsimp only at hw
  obtain ⟨hP, hD⟩ := va_join (wr := [(oa, .inl (cJ, 1, .inr (.inl (fun t9 => lI (FO t9)))))]) (w1 := [(xo, .inr (2, [.int (nI k), .ref ra, .ref rb, .int (nI rs), .ref sm, .ref hh, .ref ps, .ref pb])), (ra, .inl (cI, 256, .inl fA))]) hP hD [0, 1] [2] rfl rfl (by decide) (by decide) hk1 hFc hP1 hD1
  generalize H1 = H at hP hS ⊢
  have hP : va_P (dC, dI) vwCl [(oa, .inl (cJ, 1, .inr (.inl (fun t9 => lI (FO t9))))), (xo, .inr (2, [.int (nI k), .ref ra, .ref rb, .int (nI rs), .ref sm, .ref hh, .ref ps, .ref pb])), (ra, .inl (cI, 256, .inl fA))] H := hP
  have hD : va_D A [(oa, .inl (cJ, 1, .inr (.inl (fun t9 => lI (FO t9))))), (xo, .inr (2, [.int (nI k), .ref ra, .ref rb, .int (nI rs), .ref sm, .ref hh, .ref ps, .ref pb])), (ra, .inl (cI, 256, .inl fA))] := hD
  clear hPc hDc hKc hFc hP1 hD1 hk1 hz1 hvm ht
  subst hw
  refine lv_i2l (v := lI ((fA j).toInt)) hx hb dL_a_7 (i2l_I (fA j)) ?_
  refine va_last hx hb hK hP hD hS 0 1 rfl rfl (vp_in_nI (by omega) (by omega)) dL_a_8 (fun H locs hP hD hS => ?_)
  rw [nI_clamp (show 0 < 2 ^ 31 by omega)] at hP hD
  rw [upI_l] at hP hD
  have hP : va_P (dC, dI) vwCl [(oa, .inl (cJ, 1, .inr (.inl (fun t9 => lI ((upI FO 0 ((fA j).toInt)) t9))))), (xo, .inr (2, [.int (nI k), .ref ra, .ref rb, .int (nI rs), .ref sm, .ref hh, .ref ps, .ref pb])), (ra, .inl (cI, 256, .inl fA))] H := hP
  have hD : va_D A [(oa, .inl (cJ, 1, .inr (.inl (fun t9 => lI ((upI FO 0 ((fA j).toInt)) t9))))), (xo, .inr (2, [.int (nI k), .ref ra, .ref rb, .int (nI rs), .ref sm, .ref hh, .ref ps, .ref pb])), (ra, .inl (cI, 256, .inl fA))] := hD
  refine lv_goto (tgt := 15) hx hb dL_a_9 (by decide) ?_
  refine lv_iconst (v := nI 0) hx hb dL_a_15 (by decide) ?_
  have hP9 : va_P (dC, dI) vwCl [(xo, .inr (2, [.int (nI k), .ref ra, .ref rb, .int (nI rs), .ref sm, .ref hh, .ref ps, .ref pb])), (ra, .inl (cI, 256, .inl fA)), (oa, .inl (cJ, 1, .inr (.inl (fun t9 => lI ((upI FO 0 ((fA j).toInt)) t9)))))] H := hP.sub [1, 2, 0] rfl
  have hD9 : va_D A [(xo, .inr (2, [.int (nI k), .ref ra, .ref rb, .int (nI rs), .ref sm, .ref hh, .ref ps, .ref pb])), (ra, .inl (cI, 256, .inl fA)), (oa, .inl (cJ, 1, .inr (.inl (fun t9 => lI ((upI FO 0 ((fA j).toInt)) t9)))))] := hD.sub [1, 2, 0] (by decide) rfl
  exact W.iret (v := nI 0) hx hb hr (fun tq9 ht hW => ⟨⟨nI 0, (), rfl, rfl, by rw [ht]; exact hP9, hD9⟩, hS.F ht⟩) hS.2.2 dL_a_16

abbrev q_L_a_bad (dC : Nat → ClassId) (dI : Nat → Nat → Nat) (xo ra rb sm hh ps pb k rs : Nat) (i : Int32) (oa : Nat) (A : Nat → Prop) : Array Value → State → Outcome → State → Prop := va_Qi (fun (r : Int32) (u : Unit) => r = nI 1) (fun u t => va_P (dC, dI) vwCl [(xo, .inr (2, [.int (nI k), .ref ra, .ref rb, .int (nI rs), .ref sm, .ref hh, .ref ps, .ref pb]))] t.heap ∧ va_D A [(xo, .inr (2, [.int (nI k), .ref ra, .ref rb, .int (nI rs), .ref sm, .ref hh, .ref ps, .ref pb]))]) A
set_option maxHeartbeats 4000000 in
set_option maxRecDepth 100000 in
theorem c_L_a_bad (l : Launch) (dC : Nat → ClassId) (dI : Nat → Nat → Nat) (xo ra rb sm hh ps pb k rs : Nat) (i : Int32) (oa : Nat) (sz : Nat) (tP : Nat) (sa : Nat → Nat) (hl9 : l.stackTraces = false) (zk1 : 1 ≤ k) (zk : k ≤ 8) (hbad : i < 0 ∨ nI (2 ^ k) ≤ i) : Met l yL_a wsL_a ({ frames := 8, cells := 1, slots := 6, locals := 124 }) (va_Pc [.ref xo, .int i, .ref oa] (fun U => U.heap.size = sz ∧ va_P (dC, dI) vwCl [(xo, .inr (2, [.int (nI k), .ref ra, .ref rb, .int (nI rs), .ref sm, .ref hh, .ref ps, .ref pb]))] U.heap ∧ va_K (dC, dI) vwCl [] U ∧ va_D (fun _ => True) [(xo, .inr (2, [.int (nI k), .ref ra, .ref rb, .int (nI rs), .ref sm, .ref hh, .ref ps, .ref pb]))] ∧ amb tP sa (va_A [(xo, .inr (2, [.int (nI k), .ref ra, .ref rb, .int (nI rs), .ref sm, .ref hh, .ref ps, .ref pb]))] sz) U U.heap)) (q_L_a_bad dC dI xo ra rb sm hh ps pb k rs i oa (va_A [(xo, .inr (2, [.int (nI k), .ref ra, .ref rb, .int (nI rs), .ref sm, .ref hh, .ref ps, .ref pb]))] sz)) 1 6 (va_A [(xo, .inr (2, [.int (nI k), .ref ra, .ref rb, .int (nI rs), .ref sm, .ref hh, .ref ps, .ref pb]))] sz) := by
  refine va_MetW (cc := cL_a) (maxL := 4) (ret := (some .int)) (hh := [(0, 9, 12, 19)]) (by decide) rfl ?_
  intro p e s m args below meth c s₁ B hml hv
  obtain ⟨rfl, hsz, hP, hK, hD0, hM⟩ := hv
  have hx := B.exec
  have hb := B.bytes
  have hr := B.returns
  have hts := atoms_spec (ws := wsL_a) B.pre
  have hown : s.vm.findClass RL = some m.cls := findClass_of_methodNamed B.named
  have hlocks := B.notSynchronized
  have htab := vx_table (x := yL_a) B (hts (.codeWith yL_a cL_a 4 (some .int) [(0, 9, 12, 19)]) List.mem_cons_self)
  subst hsz
  have hD := hD0.self (sz := s.heap.size)
  generalize hAe : va_A [(xo, .inr (2, [.int (nI k), .ref ra, .ref rb, .int (nI rs), .ref sm, .ref hh, .ref ps, .ref pb]))] s.heap.size = A at hD hM ⊢
  have hA : ∀ q : Nat, s.heap.size ≤ q → A q := fun q h => by rw [← hAe]; exact Or.inr h
  have hS : va_S A s.heap s.heap [] := va_S.rf
  have hP : va_P (dC, dI) vwCl [(xo, .inr (2, [.int (nI k), .ref ra, .ref rb, .int (nI rs), .ref sm, .ref hh, .ref ps, .ref pb]))] s.heap := hP
  have hl := lv_entry (([.ref xo, .int i, .ref oa] : List Value)) (n := 4) (Nat.le_of_ble_eq_true rfl)
  rw [lg_entry_eq]
  generalize (lg_sl (([.ref xo, .int i, .ref oa] : List Value)) ++ List.replicate (4 - (lg_sl (([.ref xo, .int i, .ref oa] : List Value))).length) Slot.unset).toArray = ls at hl ⊢
  have hl : lv_has ls 4 [(0, .ref xo), (1, .int i), (2, .ref oa)] := hl
  obtain ⟨H, hHe⟩ : ∃ H : Heap, H = s.heap := ⟨_, rfl⟩
  rw [← hHe] at hP
  have hS : va_S A s.heap H [] := by rw [hHe]; exact hS
  obtain ⟨locs, hlo⟩ : ∃ L : List Loc, L = [] := ⟨_, rfl⟩
  rw [← hlo] at hS ⊢
  rw [← hHe]
  refine lv_aload_n hx hb dL_a_0 rfl (lv_at hl 2 rfl) ?_
  refine lv_iconst (v := nI 0) hx hb dL_a_1 (by decide) ?_
  refine lv_aload_n hx hb dL_a_2 rfl (lv_at hl 0 rfl) ?_
  refine lv_iload_n hx hb dL_a_3 rfl (lv_at hl 1 rfl) ?_
  have hPc := hP.sub (ws' := [(xo, .inr (2, [.int (nI k), .ref ra, .ref rb, .int (nI rs), .ref sm, .ref hh, .ref ps, .ref pb]))]) [0] rfl
  have hDc := hD.sub (ws' := [(xo, .inr (2, [.int (nI k), .ref ra, .ref rb, .int (nI rs), .ref sm, .ref hh, .ref ps, .ref pb]))]) [0] (by decide) rfl
  have hKc := hK.sub (tys' := []) [] rfl
  have hFc := va_free (wc := [(xo, .inr (2, [.int (nI k), .ref ra, .ref rb, .int (nI rs), .ref sm, .ref hh, .ref ps, .ref pb]))]) hD hS hA [0] rfl
  refine vx_calli (vx_runV (As := [.int i]) (rest := [.int (nI 0), .ref oa]) ⟨hx, hb, hml, hown, hts⟩ (c_X3_a_bad l dC dI xo ra rb sm hh ps pb k rs i H.size hl9 tP sa zk1 zk hbad) (cwV 1 hts gL_a_X3_a rfl rfl rfl (by decide +kernel) ⟨Nat.le_of_ble_eq_true rfl, Nat.le_of_ble_eq_true rfl⟩) ⟨fun a U g mk q => by obtain ⟨q0, q1, qP, qK, qD, qM⟩ := q; exact ⟨q0, q1, qP, va_K.moved (u := U) (U := U.calling g mk a) (Vm.Alike.refl U.vm) qK, qD, amb_same (U := U) (U' := U.calling g mk a) rfl rfl qM⟩, va_recv hKc hPc (ci := 2) (q0 := 0) rfl rfl, fun U hU hW => ⟨rfl, by rw [hU], by rw [hU]; exact hPc, va_K.moved hW.alike hKc, hDc.weaken (fun _ _ _ _ => trivial), amb_pass hM hS hFc hW hU⟩⟩ rfl rfl hl.1 rfl (lv_room (Nat.le_of_ble_eq_true rfl)) dL_a_4 ⟨Nat.le_of_ble_eq_true rfl, Nat.le_of_ble_eq_true rfl⟩) hS (fun q _ h => hFc q h) hFc (fun q _ h => hFc q h) (fun E9 ce9 q9 u9 t9 H1 locs ht hvm hw hB hz1 hk1 hS hce hcv hcl => ?_) (fun r9 u9 t9 H1 locs ht hvm hw hB hz1 hk1 hS => ?_)
  · obtain ⟨hxp, hP1, hD1⟩ := hB
    rw [ht] at hP1
    obtain ⟨hP, hD⟩ := va_join (wr := []) (w1 := [(xo, .inr (2, [.int (nI k), .ref ra, .ref rb, .int (nI rs), .ref sm, .ref hh, .ref ps, .ref pb]))]) hP hD [0] [] rfl rfl (by decide) (by decide) hk1 hFc hP1 hD1
    subst hxp
    refine vx_catch (own := RL) (name := "java/lang/IndexOutOfBoundsException") hown [] ⟨0, 9, 12, 19⟩ [] (htab.trans rfl) (fun z hz => (List.not_mem_nil hz).elim) (by decide) (by decide) (hts (.classLink RL 19 "java/lang/IndexOutOfBoundsException") (by decide +kernel)) (va_tabs rfl rfl (hM.2.2.1 (.castable "java/lang/IndexOutOfBoundsException" "java/lang/IndexOutOfBoundsException") (by decide +kernel))) hce hcv hcl ?_
    clear hce
    generalize H1 = H at hP hS ⊢
    have hP : va_P (dC, dI) vwCl [(xo, .inr (2, [.int (nI k), .ref ra, .ref rb, .int (nI rs), .ref sm, .ref hh, .ref ps, .ref pb]))] H := hP
    have hD : va_D A [(xo, .inr (2, [.int (nI k), .ref ra, .ref rb, .int (nI rs), .ref sm, .ref hh, .ref ps, .ref pb]))] := hD
    refine W.widen (k := 1) (n := 6) (by omega) (by omega) ?_
    refine W.eq (g2 := F0 m 12 ls [.ref q9]) rfl ?_
    refine lv_astore_n (lv' := [(3, .ref q9), (0, .ref xo), (1, .int i), (2, .ref oa)]) hx hb dL_a_12 rfl hl (by decide) rfl (fun ls hl => ?_)
    refine lv_iconst (v := nI 1) hx hb dL_a_13 (by decide) ?_
    have hP9 : va_P (dC, dI) vwCl [(xo, .inr (2, [.int (nI k), .ref ra, .ref rb, .int (nI rs), .ref sm, .ref hh, .ref ps, .ref pb]))] H := hP.sub [0] rfl
    have hD9 : va_D A [(xo, .inr (2, [.int (nI k), .ref ra, .ref rb, .int (nI rs), .ref sm, .ref hh, .ref ps, .ref pb]))] := hD.sub [0] (by decide) rfl
    exact W.iret (v := nI 1) hx hb hr (fun tq9 ht hW => ⟨⟨nI 1, (), rfl, rfl, by rw [ht]; exact hP9, hD9⟩, hS.F ht⟩) hS.2.2 dL_a_14
  exact hw.elim

abbrev q_L_b_ok (dC : Nat → ClassId) (dI : Nat → Nat → Nat) (xo ra rb sm hh ps pb k rs : Nat) (cI : ClassId) (fB : Nat → Int32) (j : Nat) (oa : Nat) (cJ : ClassId) (FO : Nat → Int) (A : Nat → Prop) : Array Value → State → Outcome → State → Prop := va_Qi (fun (r : Int32) (u : Unit) => r = nI 0) (fun u t => va_P (dC, dI) vwCl [(xo, .inr (2, [.int (nI k), .ref ra, .ref rb, .int (nI rs), .ref sm, .ref hh, .ref ps, .ref pb])), (rb, .inl (cI, 256, .inl fB)), (oa, .inl (cJ, 1, .inr (.inl (fun t9 => lI ((upI FO 0 ((fB j).toInt)) t9)))))] t.heap ∧ va_D A [(xo, .inr (2, [.int (nI k), .ref ra, .ref rb, .int (nI rs), .ref sm, .ref hh, .ref ps, .ref pb])), (rb, .inl (cI, 256, .inl fB)), (oa, .inl (cJ, 1, .inr (.inl (fun t9 => lI ((upI FO 0 ((fB j).toInt)) t9)))))]) A
set_option maxHeartbeats 4000000 in
set_option maxRecDepth 100000 in
theorem c_L_b_ok (l : Launch) (dC : Nat → ClassId) (dI : Nat → Nat → Nat) (xo ra rb sm hh ps pb k rs : Nat) (cI : ClassId) (fB : Nat → Int32) (j : Nat) (oa : Nat) (cJ : ClassId) (FO : Nat → Int) (sz : Nat) (zk1 : 1 ≤ k) (zk : k ≤ 8) (zj : j < 2 ^ k) : Met l yL_b wsL_b ({ frames := 3, cells := 0, slots := 0, locals := 62 }) (va_Pc [.ref xo, .int (nI j), .ref oa] (fun U => U.heap.size = sz ∧ va_P (dC, dI) vwCl [(xo, .inr (2, [.int (nI k), .ref ra, .ref rb, .int (nI rs), .ref sm, .ref hh, .ref ps, .ref pb])), (rb, .inl (cI, 256, .inl fB)), (oa, .inl (cJ, 1, .inr (.inl (fun t9 => lI (FO t9)))))] U.heap ∧ va_K (dC, dI) vwCl [(cI, .int), (cJ, .long)] U ∧ va_D (fun _ => True) [(xo, .inr (2, [.int (nI k), .ref ra, .ref rb, .int (nI rs), .ref sm, .ref hh, .ref ps, .ref pb])), (rb, .inl (cI, 256, .inl fB)), (oa, .inl (cJ, 1, .inr (.inl (fun t9 => lI (FO t9)))))])) (q_L_b_ok dC dI xo ra rb sm hh ps pb k rs cI fB j oa cJ FO (va_A [(xo, .inr (2, [.int (nI k), .ref ra, .ref rb, .int (nI rs), .ref sm, .ref hh, .ref ps, .ref pb])), (rb, .inl (cI, 256, .inl fB)), (oa, .inl (cJ, 1, .inr (.inl (fun t9 => lI (FO t9)))))] sz)) 0 0 (va_A [(xo, .inr (2, [.int (nI k), .ref ra, .ref rb, .int (nI rs), .ref sm, .ref hh, .ref ps, .ref pb])), (rb, .inl (cI, 256, .inl fB)), (oa, .inl (cJ, 1, .inr (.inl (fun t9 => lI (FO t9)))))] sz) := by
  refine va_MetW (cc := cL_b) (maxL := 4) (ret := (some .int)) (hh := [(0, 9, 12, 19)]) (by decide) rfl ?_
  intro p e s m args below meth c s₁ B hml hv
  obtain ⟨rfl, hsz, hP, hK, hD0⟩ := hv
  have hx := B.exec
  have hb := B.bytes
  have hr := B.returns
  have hts := atoms_spec (ws := wsL_b) B.pre
  have hown : s.vm.findClass RL = some m.cls := findClass_of_methodNamed B.named
  have hlocks := B.notSynchronized
  have htab := vx_table (x := yL_b) B (hts (.codeWith yL_b cL_b 4 (some .int) [(0, 9, 12, 19)]) List.mem_cons_self)
  subst hsz
  have hD := hD0.self (sz := s.heap.size)
  generalize hAe : va_A [(xo, .inr (2, [.int (nI k), .ref ra, .ref rb, .int (nI rs), .ref sm, .ref hh, .ref ps, .ref pb])), (rb, .inl (cI, 256, .inl fB)), (oa, .inl (cJ, 1, .inr (.inl (fun t9 => lI (FO t9)))))] s.heap.size = A at hD ⊢
  have hA : ∀ q : Nat, s.heap.size ≤ q → A q := fun q h => by rw [← hAe]; exact Or.inr h
  have hS : va_S A s.heap s.heap [] := va_S.rf
  have hP : va_P (dC, dI) vwCl [(xo, .inr (2, [.int (nI k), .ref ra, .ref rb, .int (nI rs), .ref sm, .ref hh, .ref ps, .ref pb])), (rb, .inl (cI, 256, .inl fB)), (oa, .inl (cJ, 1, .inr (.inl (fun t9 => lI (FO t9)))))] s.heap := hP
  have hl := lv_entry (([.ref xo, .int (nI j), .ref oa] : List Value)) (n := 4) (Nat.le_of_ble_eq_true rfl)
  rw [lg_entry_eq]
  generalize (lg_sl (([.ref xo, .int (nI j), .ref oa] : List Value)) ++ List.replicate (4 - (lg_sl (([.ref xo, .int (nI j), .ref oa] : List Value))).length) Slot.unset).toArray = ls at hl ⊢
  have hl : lv_has ls 4 [(0, .ref xo), (1, .int (nI j)), (2, .ref oa)] := hl
  obtain ⟨H, hHe⟩ : ∃ H : Heap, H = s.heap := ⟨_, rfl⟩
  rw [← hHe] at hP
  have hS : va_S A s.heap H [] := by rw [hHe]; exact hS
  obtain ⟨locs, hlo⟩ : ∃ L : List Loc, L = [] := ⟨_, rfl⟩
  rw [← hlo] at hS ⊢
  rw [← hHe]
  refine lv_aload_n hx hb dL_b_0 rfl (lv_at hl 2 rfl) ?_
  refine lv_iconst (v := nI 0) hx hb dL_b_1 (by decide) ?_
  refine lv_aload_n hx hb dL_b_2 rfl (lv_at hl 0 rfl) ?_
  refine lv_iload_n hx hb dL_b_3 rfl (lv_at hl 1 rfl) ?_
  have hPc := hP.sub (ws' := [(xo, .inr (2, [.int (nI k), .ref ra, .ref rb, .int (nI rs), .ref sm, .ref hh, .ref ps, .ref pb])), (rb, .inl (cI, 256, .inl fB))]) [0, 1] rfl
  have hDc := hD.sub (ws' := [(xo, .inr (2, [.int (nI k), .ref ra, .ref rb, .int (nI rs), .ref sm, .ref hh, .ref ps, .ref pb])), (rb, .inl (cI, 256, .inl fB))]) [0, 1] (by decide) rfl
  have hKc := hK.sub (tys' := [(cI, .int)]) [0] rfl
  have hFc := va_free (wc := [(xo, .inr (2, [.int (nI k), .ref ra, .ref rb, .int (nI rs), .ref sm, .ref hh, .ref ps, .ref pb])), (rb, .inl (cI, 256, .inl fB))]) hD hS hA [0, 1] rfl
  refine va_calli (va_runV (As := [.int (nI j)]) (rest := [.int (nI 0), .ref oa]) ⟨hx, hb, hml, hown, hts⟩ (c_X3_b_ok l dC dI xo ra rb sm hh ps pb k rs cI fB j H.size zk1 zk zj) (cwV 1 hts gL_b_X3_b rfl rfl rfl (by decide +kernel) ⟨Nat.le_of_ble_eq_true rfl, Nat.le_of_ble_eq_true rfl⟩) ⟨fun a U g mk q => by obtain ⟨q0, q1, qP, qK, qD⟩ := q; exact ⟨q0, q1, qP, va_K.moved (u := U) (U := U.calling g mk a) (Vm.Alike.refl U.vm) qK, qD⟩, va_recv hKc hPc (ci := 2) (q0 := 0) rfl rfl, fun U hU hW => ⟨rfl, by rw [hU], by rw [hU]; exact hPc, va_K.moved hW.alike hKc, hDc.weaken (fun _ _ _ _ => trivial)⟩⟩ rfl rfl hl.1 rfl (lv_room (Nat.le_of_ble_eq_true rfl)) dL_b_4 ⟨Nat.le_of_ble_eq_true rfl, Nat.le_of_ble_eq_true rfl⟩) hS (fun q _ h => hFc q h) hFc (fun r9 u9 t9 H1 locs ht hvm hw hB hz1 hk1 hS => ?_)
  obtain ⟨hP1, hD1⟩ := hB
  rw [ht] at hP1
  try dsimp only at hw
  obtain ⟨hP, hD⟩ := va_join (wr := [(oa, .inl (cJ, 1, .inr (.inl (fun t9 => lI (FO t9)))))]) (w1 := [(xo, .inr (2, [.int (nI k), .ref ra, .ref rb, .int (nI rs), .ref sm, .ref hh, .ref ps, .ref pb])), (rb, .inl (cI, 256, .inl fB))]) hP hD [0, 1] [2] rfl rfl (by decide) (by decide) hk1 hFc hP1 hD1
  generalize H1 = H at hP hS ⊢
  have hP : va_P (dC, dI) vwCl [(oa, .inl (cJ, 1, .inr (.inl (fun t9 => lI (FO t9))))), (xo, .inr (2, [.int (nI k), .ref ra, .ref rb, .int (nI rs), .ref sm, .ref hh, .ref ps, .ref pb])), (rb, .inl (cI, 256, .inl fB))] H := hP
  have hD : va_D A [(oa, .inl (cJ, 1, .inr (.inl (fun t9 => lI (FO t9))))), (xo, .inr (2, [.int (nI k), .ref ra, .ref rb, .int (nI rs), .ref sm, .ref hh, .ref ps, .ref pb])), (rb, .inl (cI, 256, .inl fB))] := hD
  clear hPc hDc hKc hFc hP1 hD1 hk1 hz1 hvm ht
  subst hw
  refine lv_i2l (v := lI ((fB j).toInt)) hx hb dL_b_7 (i2l_I (fB j)) ?_
  refine va_last hx hb hK hP hD hS 0 1 rfl rfl (vp_in_nI (by omega) (by omega)) dL_b_8 (fun H locs hP hD hS => ?_)
  rw [nI_clamp (show 0 < 2 ^ 31 by omega)] at hP hD
  rw [upI_l] at hP hD
  have hP : va_P (dC, dI) vwCl [(oa, .inl (cJ, 1, .inr (.inl (fun t9 => lI ((upI FO 0 ((fB j).toInt)) t9))))), (xo, .inr (2, [.int (nI k), .ref ra, .ref rb, .int (nI rs), .ref sm, .ref hh, .ref ps, .ref pb])), (rb, .inl (cI, 256, .inl fB))] H := hP
  have hD : va_D A [(oa, .inl (cJ, 1, .inr (.inl (fun t9 => lI ((upI FO 0 ((fB j).toInt)) t9))))), (xo, .inr (2, [.int (nI k), .ref ra, .ref rb, .int (nI rs), .ref sm, .ref hh, .ref ps, .ref pb])), (rb, .inl (cI, 256, .inl fB))] := hD
  refine lv_goto (tgt := 15) hx hb dL_b_9 (by decide) ?_
  refine lv_iconst (v := nI 0) hx hb dL_b_15 (by decide) ?_
  have hP9 : va_P (dC, dI) vwCl [(xo, .inr (2, [.int (nI k), .ref ra, .ref rb, .int (nI rs), .ref sm, .ref hh, .ref ps, .ref pb])), (rb, .inl (cI, 256, .inl fB)), (oa, .inl (cJ, 1, .inr (.inl (fun t9 => lI ((upI FO 0 ((fB j).toInt)) t9)))))] H := hP.sub [1, 2, 0] rfl
  have hD9 : va_D A [(xo, .inr (2, [.int (nI k), .ref ra, .ref rb, .int (nI rs), .ref sm, .ref hh, .ref ps, .ref pb])), (rb, .inl (cI, 256, .inl fB)), (oa, .inl (cJ, 1, .inr (.inl (fun t9 => lI ((upI FO 0 ((fB j).toInt)) t9)))))] := hD.sub [1, 2, 0] (by decide) rfl
  exact W.iret (v := nI 0) hx hb hr (fun tq9 ht hW => ⟨⟨nI 0, (), rfl, rfl, by rw [ht]; exact hP9, hD9⟩, hS.F ht⟩) hS.2.2 dL_b_16

abbrev q_L_b_bad (dC : Nat → ClassId) (dI : Nat → Nat → Nat) (xo ra rb sm hh ps pb k rs : Nat) (i : Int32) (oa : Nat) (A : Nat → Prop) : Array Value → State → Outcome → State → Prop := va_Qi (fun (r : Int32) (u : Unit) => r = nI 1) (fun u t => va_P (dC, dI) vwCl [(xo, .inr (2, [.int (nI k), .ref ra, .ref rb, .int (nI rs), .ref sm, .ref hh, .ref ps, .ref pb]))] t.heap ∧ va_D A [(xo, .inr (2, [.int (nI k), .ref ra, .ref rb, .int (nI rs), .ref sm, .ref hh, .ref ps, .ref pb]))]) A
set_option maxHeartbeats 4000000 in
set_option maxRecDepth 100000 in
theorem c_L_b_bad (l : Launch) (dC : Nat → ClassId) (dI : Nat → Nat → Nat) (xo ra rb sm hh ps pb k rs : Nat) (i : Int32) (oa : Nat) (sz : Nat) (tP : Nat) (sa : Nat → Nat) (hl9 : l.stackTraces = false) (zk1 : 1 ≤ k) (zk : k ≤ 8) (hbad : i < 0 ∨ nI (2 ^ k) ≤ i) : Met l yL_b wsL_b ({ frames := 8, cells := 1, slots := 6, locals := 124 }) (va_Pc [.ref xo, .int i, .ref oa] (fun U => U.heap.size = sz ∧ va_P (dC, dI) vwCl [(xo, .inr (2, [.int (nI k), .ref ra, .ref rb, .int (nI rs), .ref sm, .ref hh, .ref ps, .ref pb]))] U.heap ∧ va_K (dC, dI) vwCl [] U ∧ va_D (fun _ => True) [(xo, .inr (2, [.int (nI k), .ref ra, .ref rb, .int (nI rs), .ref sm, .ref hh, .ref ps, .ref pb]))] ∧ amb tP sa (va_A [(xo, .inr (2, [.int (nI k), .ref ra, .ref rb, .int (nI rs), .ref sm, .ref hh, .ref ps, .ref pb]))] sz) U U.heap)) (q_L_b_bad dC dI xo ra rb sm hh ps pb k rs i oa (va_A [(xo, .inr (2, [.int (nI k), .ref ra, .ref rb, .int (nI rs), .ref sm, .ref hh, .ref ps, .ref pb]))] sz)) 1 6 (va_A [(xo, .inr (2, [.int (nI k), .ref ra, .ref rb, .int (nI rs), .ref sm, .ref hh, .ref ps, .ref pb]))] sz) := by
  refine va_MetW (cc := cL_b) (maxL := 4) (ret := (some .int)) (hh := [(0, 9, 12, 19)]) (by decide) rfl ?_
  intro p e s m args below meth c s₁ B hml hv
  obtain ⟨rfl, hsz, hP, hK, hD0, hM⟩ := hv
  have hx := B.exec
  have hb := B.bytes
  have hr := B.returns
  have hts := atoms_spec (ws := wsL_b) B.pre
  have hown : s.vm.findClass RL = some m.cls := findClass_of_methodNamed B.named
  have hlocks := B.notSynchronized
  have htab := vx_table (x := yL_b) B (hts (.codeWith yL_b cL_b 4 (some .int) [(0, 9, 12, 19)]) List.mem_cons_self)
  subst hsz
  have hD := hD0.self (sz := s.heap.size)
  generalize hAe : va_A [(xo, .inr (2, [.int (nI k), .ref ra, .ref rb, .int (nI rs), .ref sm, .ref hh, .ref ps, .ref pb]))] s.heap.size = A at hD hM ⊢
  have hA : ∀ q : Nat, s.heap.size ≤ q → A q := fun q h => by rw [← hAe]; exact Or.inr h
  have hS : va_S A s.heap s.heap [] := va_S.rf
  have hP : va_P (dC, dI) vwCl [(xo, .inr (2, [.int (nI k), .ref ra, .ref rb, .int (nI rs), .ref sm, .ref hh, .ref ps, .ref pb]))] s.heap := hP
  have hl := lv_entry (([.ref xo, .int i, .ref oa] : List Value)) (n := 4) (Nat.le_of_ble_eq_true rfl)
  rw [lg_entry_eq]
  generalize (lg_sl (([.ref xo, .int i, .ref oa] : List Value)) ++ List.replicate (4 - (lg_sl (([.ref xo, .int i, .ref oa] : List Value))).length) Slot.unset).toArray = ls at hl ⊢
  have hl : lv_has ls 4 [(0, .ref xo), (1, .int i), (2, .ref oa)] := hl
  obtain ⟨H, hHe⟩ : ∃ H : Heap, H = s.heap := ⟨_, rfl⟩
  rw [← hHe] at hP
  have hS : va_S A s.heap H [] := by rw [hHe]; exact hS
  obtain ⟨locs, hlo⟩ : ∃ L : List Loc, L = [] := ⟨_, rfl⟩
  rw [← hlo] at hS ⊢
  rw [← hHe]
  refine lv_aload_n hx hb dL_b_0 rfl (lv_at hl 2 rfl) ?_
  refine lv_iconst (v := nI 0) hx hb dL_b_1 (by decide) ?_
  refine lv_aload_n hx hb dL_b_2 rfl (lv_at hl 0 rfl) ?_
  refine lv_iload_n hx hb dL_b_3 rfl (lv_at hl 1 rfl) ?_
  have hPc := hP.sub (ws' := [(xo, .inr (2, [.int (nI k), .ref ra, .ref rb, .int (nI rs), .ref sm, .ref hh, .ref ps, .ref pb]))]) [0] rfl
  have hDc := hD.sub (ws' := [(xo, .inr (2, [.int (nI k), .ref ra, .ref rb, .int (nI rs), .ref sm, .ref hh, .ref ps, .ref pb]))]) [0] (by decide) rfl
  have hKc := hK.sub (tys' := []) [] rfl
  have hFc := va_free (wc := [(xo, .inr (2, [.int (nI k), .ref ra, .ref rb, .int (nI rs), .ref sm, .ref hh, .ref ps, .ref pb]))]) hD hS hA [0] rfl
  refine vx_calli (vx_runV (As := [.int i]) (rest := [.int (nI 0), .ref oa]) ⟨hx, hb, hml, hown, hts⟩ (c_X3_b_bad l dC dI xo ra rb sm hh ps pb k rs i H.size hl9 tP sa zk1 zk hbad) (cwV 1 hts gL_b_X3_b rfl rfl rfl (by decide +kernel) ⟨Nat.le_of_ble_eq_true rfl, Nat.le_of_ble_eq_true rfl⟩) ⟨fun a U g mk q => by obtain ⟨q0, q1, qP, qK, qD, qM⟩ := q; exact ⟨q0, q1, qP, va_K.moved (u := U) (U := U.calling g mk a) (Vm.Alike.refl U.vm) qK, qD, amb_same (U := U) (U' := U.calling g mk a) rfl rfl qM⟩, va_recv hKc hPc (ci := 2) (q0 := 0) rfl rfl, fun U hU hW => ⟨rfl, by rw [hU], by rw [hU]; exact hPc, va_K.moved hW.alike hKc, hDc.weaken (fun _ _ _ _ => trivial), amb_pass hM hS hFc hW hU⟩⟩ rfl rfl hl.1 rfl (lv_room (Nat.le_of_ble_eq_true rfl)) dL_b_4 ⟨Nat.le_of_ble_eq_true rfl, Nat.le_of_ble_eq_true rfl⟩) hS (fun q _ h => hFc q h) hFc (fun q _ h => hFc q h) (fun E9 ce9 q9 u9 t9 H1 locs ht hvm hw hB hz1 hk1 hS hce hcv hcl => ?_) (fun r9 u9 t9 H1 locs ht hvm hw hB hz1 hk1 hS => ?_)
  · obtain ⟨hxp, hP1, hD1⟩ := hB
    rw [ht] at hP1
    obtain ⟨hP, hD⟩ := va_join (wr := []) (w1 := [(xo, .inr (2, [.int (nI k), .ref ra, .ref rb, .int (nI rs), .ref sm, .ref hh, .ref ps, .ref pb]))]) hP hD [0] [] rfl rfl (by decide) (by decide) hk1 hFc hP1 hD1
    subst hxp
    refine vx_catch (own := RL) (name := "java/lang/IndexOutOfBoundsException") hown [] ⟨0, 9, 12, 19⟩ [] (htab.trans rfl) (fun z hz => (List.not_mem_nil hz).elim) (by decide) (by decide) (hts (.classLink RL 19 "java/lang/IndexOutOfBoundsException") (by decide +kernel)) (va_tabs rfl rfl (hM.2.2.1 (.castable "java/lang/IndexOutOfBoundsException" "java/lang/IndexOutOfBoundsException") (by decide +kernel))) hce hcv hcl ?_
    clear hce
    generalize H1 = H at hP hS ⊢
    have hP : va_P (dC, dI) vwCl [(xo, .inr (2, [.int (nI k), .ref ra, .ref rb, .int (nI rs), .ref sm, .ref hh, .ref ps, .ref pb]))] H := hP
    have hD : va_D A [(xo, .inr (2, [.int (nI k), .ref ra, .ref rb, .int (nI rs), .ref sm, .ref hh, .ref ps, .ref pb]))] := hD
    refine W.widen (k := 1) (n := 6) (by omega) (by omega) ?_
    refine W.eq (g2 := F0 m 12 ls [.ref q9]) rfl ?_
    refine lv_astore_n (lv' := [(3, .ref q9), (0, .ref xo), (1, .int i), (2, .ref oa)]) hx hb dL_b_12 rfl hl (by decide) rfl (fun ls hl => ?_)
    refine lv_iconst (v := nI 1) hx hb dL_b_13 (by decide) ?_
    have hP9 : va_P (dC, dI) vwCl [(xo, .inr (2, [.int (nI k), .ref ra, .ref rb, .int (nI rs), .ref sm, .ref hh, .ref ps, .ref pb]))] H := hP.sub [0] rfl
    have hD9 : va_D A [(xo, .inr (2, [.int (nI k), .ref ra, .ref rb, .int (nI rs), .ref sm, .ref hh, .ref ps, .ref pb]))] := hD.sub [0] (by decide) rfl
    exact W.iret (v := nI 1) hx hb hr (fun tq9 ht hW => ⟨⟨nI 1, (), rfl, rfl, by rw [ht]; exact hP9, hD9⟩, hS.F ht⟩) hS.2.2 dL_b_14
  exact hw.elim

abbrev q_L_fold_0 (dC : Nat → ClassId) (dI : Nat → Nat → Nat) (xo ra rb sm hh ps pb k rs : Nat) (cI cJ cO : ClassId) (lf rt rp so r0 r1 r2 : Nat) (g : Nat → Option Nat) (fA fB R0 R1 R2 : Nat → Int32) (FL FR FP : Nat → Int) (oa : Nat) (FO : Nat → Int) (A : Nat → Prop) : Array Value → State → Outcome → State → Prop := va_Qi (fun (r : Int32) (u : Grb) => r = nI 0) (fun u t => va_P (dC, dI) vwCl [(xo, .inr (2, [.int (nI k), .ref ra, .ref rb, .int (nI (cntK 0 k)), .ref sm, .ref hh, .ref ps, .ref pb])), (hh, .inr (0, [.ref lf, .ref rt, .ref rp])), (lf, .inl (cJ, 512, .inr (.inl (fun t9 => lI ((u.1 3) t9))))), (rt, .inl (cJ, 512, .inr (.inl (fun t9 => lI ((u.2.1 3) t9))))), (rp, .inl (cJ, 256, .inr (.inl (fun t9 => lI ((u.2.2 3) t9))))), (ra, .inl (cI, 256, .inl fA)), (rb, .inl (cI, 256, .inl fB)), (sm, .inr (1, [.ref so])), (so, .inl (cO, 3, .inr (.inr (.inr (.inr g))))), (r0, .inl (cI, 511, .inl (stR R0 (fdq 0 fA fB (u.1 0) (u.2.1 0) (u.2.2 0) k 998244353) (cntK 0 k)))), (r1, .inl (cI, 511, .inl (stR R1 (fdq 0 fA fB (u.1 1) (u.2.1 1) (u.2.2 1) k 167772161) (cntK 0 k)))), (r2, .inl (cI, 511, .inl (stR R2 (fdq 0 fA fB (u.1 2) (u.2.1 2) (u.2.2 2) k 469762049) (cntK 0 k)))), (oa, .inl (cJ, 1, .inr (.inl (fun t9 => lI ((upI FO 0 ((cntK 0 k : Nat) : Int)) t9)))))] t.heap ∧ va_D A [(xo, .inr (2, [.int (nI k), .ref ra, .ref rb, .int (nI (cntK 0 k)), .ref sm, .ref hh, .ref ps, .ref pb])), (hh, .inr (0, [.ref lf, .ref rt, .ref rp])), (lf, .inl (cJ, 512, .inr (.inl (fun t9 => lI ((u.1 3) t9))))), (rt, .inl (cJ, 512, .inr (.inl (fun t9 => lI ((u.2.1 3) t9))))), (rp, .inl (cJ, 256, .inr (.inl (fun t9 => lI ((u.2.2 3) t9))))), (ra, .inl (cI, 256, .inl fA)), (rb, .inl (cI, 256, .inl fB)), (sm, .inr (1, [.ref so])), (so, .inl (cO, 3, .inr (.inr (.inr (.inr g))))), (r0, .inl (cI, 511, .inl (stR R0 (fdq 0 fA fB (u.1 0) (u.2.1 0) (u.2.2 0) k 998244353) (cntK 0 k)))), (r1, .inl (cI, 511, .inl (stR R1 (fdq 0 fA fB (u.1 1) (u.2.1 1) (u.2.2 1) k 167772161) (cntK 0 k)))), (r2, .inl (cI, 511, .inl (stR R2 (fdq 0 fA fB (u.1 2) (u.2.1 2) (u.2.2 2) k 469762049) (cntK 0 k)))), (oa, .inl (cJ, 1, .inr (.inl (fun t9 => lI ((upI FO 0 ((cntK 0 k : Nat) : Int)) t9)))))]) A
set_option maxHeartbeats 4000000 in
set_option maxRecDepth 100000 in
theorem c_L_fold_0 (l : Launch) (dC : Nat → ClassId) (dI : Nat → Nat → Nat) (xo ra rb sm hh ps pb k rs : Nat) (cI cJ cO : ClassId) (lf rt rp so r0 r1 r2 : Nat) (g : Nat → Option Nat) (fA fB R0 R1 R2 : Nat → Int32) (FL FR FP : Nat → Int) (oa : Nat) (FO : Nat → Int) (sz : Nat) (tP : Nat) (sa : Nat → Nat) (zk1 : 1 ≤ k) (zk : k ≤ 8) (hg0 : g 0 = some r0) (hg1 : g 1 = some r1) (hg2 : g 2 = some r2) : Met l yL_fold wsL_fold ({ frames := 6, cells := 0, slots := 0, locals := 153 }) (va_Pc [.ref xo, .int (nI 0), .ref oa] (fun U => U.heap.size = sz ∧ va_P (dC, dI) vwCl [(xo, .inr (2, [.int (nI k), .ref ra, .ref rb, .int (nI rs), .ref sm, .ref hh, .ref ps, .ref pb])), (hh, .inr (0, [.ref lf, .ref rt, .ref rp])), (lf, .inl (cJ, 512, .inr (.inl (fun t9 => lI (FL t9))))), (rt, .inl (cJ, 512, .inr (.inl (fun t9 => lI (FR t9))))), (rp, .inl (cJ, 256, .inr (.inl (fun t9 => lI (FP t9))))), (ra, .inl (cI, 256, .inl fA)), (rb, .inl (cI, 256, .inl fB)), (sm, .inr (1, [.ref so])), (so, .inl (cO, 3, .inr (.inr (.inr (.inr g))))), (r0, .inl (cI, 511, .inl R0)), (r1, .inl (cI, 511, .inl R1)), (r2, .inl (cI, 511, .inl R2)), (oa, .inl (cJ, 1, .inr (.inl (fun t9 => lI (FO t9)))))] U.heap ∧ va_K (dC, dI) vwCl [(cI, .int), (cJ, .long), (cO, .array .int)] U ∧ va_D (fun _ => True) [(xo, .inr (2, [.int (nI k), .ref ra, .ref rb, .int (nI rs), .ref sm, .ref hh, .ref ps, .ref pb])), (hh, .inr (0, [.ref lf, .ref rt, .ref rp])), (lf, .inl (cJ, 512, .inr (.inl (fun t9 => lI (FL t9))))), (rt, .inl (cJ, 512, .inr (.inl (fun t9 => lI (FR t9))))), (rp, .inl (cJ, 256, .inr (.inl (fun t9 => lI (FP t9))))), (ra, .inl (cI, 256, .inl fA)), (rb, .inl (cI, 256, .inl fB)), (sm, .inr (1, [.ref so])), (so, .inl (cO, 3, .inr (.inr (.inr (.inr g))))), (r0, .inl (cI, 511, .inl R0)), (r1, .inl (cI, 511, .inl R1)), (r2, .inl (cI, 511, .inl R2)), (oa, .inl (cJ, 1, .inr (.inl (fun t9 => lI (FO t9)))))] ∧ amb tP sa (va_A [(xo, .inr (2, [.int (nI k), .ref ra, .ref rb, .int (nI rs), .ref sm, .ref hh, .ref ps, .ref pb])), (hh, .inr (0, [.ref lf, .ref rt, .ref rp])), (lf, .inl (cJ, 512, .inr (.inl (fun t9 => lI (FL t9))))), (rt, .inl (cJ, 512, .inr (.inl (fun t9 => lI (FR t9))))), (rp, .inl (cJ, 256, .inr (.inl (fun t9 => lI (FP t9))))), (ra, .inl (cI, 256, .inl fA)), (rb, .inl (cI, 256, .inl fB)), (sm, .inr (1, [.ref so])), (so, .inl (cO, 3, .inr (.inr (.inr (.inr g))))), (r0, .inl (cI, 511, .inl R0)), (r1, .inl (cI, 511, .inl R1)), (r2, .inl (cI, 511, .inl R2)), (oa, .inl (cJ, 1, .inr (.inl (fun t9 => lI (FO t9)))))] sz) U U.heap)) (q_L_fold_0 dC dI xo ra rb sm hh ps pb k rs cI cJ cO lf rt rp so r0 r1 r2 g fA fB R0 R1 R2 FL FR FP oa FO (va_A [(xo, .inr (2, [.int (nI k), .ref ra, .ref rb, .int (nI rs), .ref sm, .ref hh, .ref ps, .ref pb])), (hh, .inr (0, [.ref lf, .ref rt, .ref rp])), (lf, .inl (cJ, 512, .inr (.inl (fun t9 => lI (FL t9))))), (rt, .inl (cJ, 512, .inr (.inl (fun t9 => lI (FR t9))))), (rp, .inl (cJ, 256, .inr (.inl (fun t9 => lI (FP t9))))), (ra, .inl (cI, 256, .inl fA)), (rb, .inl (cI, 256, .inl fB)), (sm, .inr (1, [.ref so])), (so, .inl (cO, 3, .inr (.inr (.inr (.inr g))))), (r0, .inl (cI, 511, .inl R0)), (r1, .inl (cI, 511, .inl R1)), (r2, .inl (cI, 511, .inl R2)), (oa, .inl (cJ, 1, .inr (.inl (fun t9 => lI (FO t9)))))] sz)) 0 0 (va_A [(xo, .inr (2, [.int (nI k), .ref ra, .ref rb, .int (nI rs), .ref sm, .ref hh, .ref ps, .ref pb])), (hh, .inr (0, [.ref lf, .ref rt, .ref rp])), (lf, .inl (cJ, 512, .inr (.inl (fun t9 => lI (FL t9))))), (rt, .inl (cJ, 512, .inr (.inl (fun t9 => lI (FR t9))))), (rp, .inl (cJ, 256, .inr (.inl (fun t9 => lI (FP t9))))), (ra, .inl (cI, 256, .inl fA)), (rb, .inl (cI, 256, .inl fB)), (sm, .inr (1, [.ref so])), (so, .inl (cO, 3, .inr (.inr (.inr (.inr g))))), (r0, .inl (cI, 511, .inl R0)), (r1, .inl (cI, 511, .inl R1)), (r2, .inl (cI, 511, .inl R2)), (oa, .inl (cJ, 1, .inr (.inl (fun t9 => lI (FO t9)))))] sz) := by
  refine va_MetW (cc := cL_fold) (maxL := 4) (ret := (some .int)) (hh := [(0, 9, 12, 13)]) (by decide) rfl ?_
  intro p e s m args below meth c s₁ B hml hv
  obtain ⟨rfl, hsz, hP, hK, hD0, hM⟩ := hv
  have hx := B.exec
  have hb := B.bytes
  have hr := B.returns
  have hts := atoms_spec (ws := wsL_fold) B.pre
  have hown : s.vm.findClass RL = some m.cls := findClass_of_methodNamed B.named
  have hlocks := B.notSynchronized
  have htab := vx_table (x := yL_fold) B (hts (.codeWith yL_fold cL_fold 4 (some .int) [(0, 9, 12, 13)]) List.mem_cons_self)
  subst hsz
  have hD := hD0.self (sz := s.heap.size)
  generalize hAe : va_A [(xo, .inr (2, [.int (nI k), .ref ra, .ref rb, .int (nI rs), .ref sm, .ref hh, .ref ps, .ref pb])), (hh, .inr (0, [.ref lf, .ref rt, .ref rp])), (lf, .inl (cJ, 512, .inr (.inl (fun t9 => lI (FL t9))))), (rt, .inl (cJ, 512, .inr (.inl (fun t9 => lI (FR t9))))), (rp, .inl (cJ, 256, .inr (.inl (fun t9 => lI (FP t9))))), (ra, .inl (cI, 256, .inl fA)), (rb, .inl (cI, 256, .inl fB)), (sm, .inr (1, [.ref so])), (so, .inl (cO, 3, .inr (.inr (.inr (.inr g))))), (r0, .inl (cI, 511, .inl R0)), (r1, .inl (cI, 511, .inl R1)), (r2, .inl (cI, 511, .inl R2)), (oa, .inl (cJ, 1, .inr (.inl (fun t9 => lI (FO t9)))))] s.heap.size = A at hD hM ⊢
  have hA : ∀ q : Nat, s.heap.size ≤ q → A q := fun q h => by rw [← hAe]; exact Or.inr h
  have hS : va_S A s.heap s.heap [] := va_S.rf
  have hP : va_P (dC, dI) vwCl [(xo, .inr (2, [.int (nI k), .ref ra, .ref rb, .int (nI rs), .ref sm, .ref hh, .ref ps, .ref pb])), (hh, .inr (0, [.ref lf, .ref rt, .ref rp])), (lf, .inl (cJ, 512, .inr (.inl (fun t9 => lI (FL t9))))), (rt, .inl (cJ, 512, .inr (.inl (fun t9 => lI (FR t9))))), (rp, .inl (cJ, 256, .inr (.inl (fun t9 => lI (FP t9))))), (ra, .inl (cI, 256, .inl fA)), (rb, .inl (cI, 256, .inl fB)), (sm, .inr (1, [.ref so])), (so, .inl (cO, 3, .inr (.inr (.inr (.inr g))))), (r0, .inl (cI, 511, .inl R0)), (r1, .inl (cI, 511, .inl R1)), (r2, .inl (cI, 511, .inl R2)), (oa, .inl (cJ, 1, .inr (.inl (fun t9 => lI (FO t9)))))] s.heap := hP
  have hl := lv_entry (([.ref xo, .int (nI 0), .ref oa] : List Value)) (n := 4) (Nat.le_of_ble_eq_true rfl)
  rw [lg_entry_eq]
  generalize (lg_sl (([.ref xo, .int (nI 0), .ref oa] : List Value)) ++ List.replicate (4 - (lg_sl (([.ref xo, .int (nI 0), .ref oa] : List Value))).length) Slot.unset).toArray = ls at hl ⊢
  have hl : lv_has ls 4 [(0, .ref xo), (1, .int (nI 0)), (2, .ref oa)] := hl
  obtain ⟨H, hHe⟩ : ∃ H : Heap, H = s.heap := ⟨_, rfl⟩
  rw [← hHe] at hP
  have hS : va_S A s.heap H [] := by rw [hHe]; exact hS
  obtain ⟨locs, hlo⟩ : ∃ L : List Loc, L = [] := ⟨_, rfl⟩
  rw [← hlo] at hS ⊢
  rw [← hHe]
  have hcn := cnt_b (kd := 0) (k := k) (by omega) zk
  refine lv_aload_n hx hb dL_fold_0 rfl (lv_at hl 2 rfl) ?_
  refine lv_iconst (v := nI 0) hx hb dL_fold_1 (by decide) ?_
  refine lv_aload_n hx hb dL_fold_2 rfl (lv_at hl 0 rfl) ?_
  refine lv_iload_n hx hb dL_fold_3 rfl (lv_at hl 1 rfl) ?_
  have hPc := hP.sub (ws' := [(xo, .inr (2, [.int (nI k), .ref ra, .ref rb, .int (nI rs), .ref sm, .ref hh, .ref ps, .ref pb])), (hh, .inr (0, [.ref lf, .ref rt, .ref rp])), (lf, .inl (cJ, 512, .inr (.inl (fun t9 => lI (FL t9))))), (rt, .inl (cJ, 512, .inr (.inl (fun t9 => lI (FR t9))))), (rp, .inl (cJ, 256, .inr (.inl (fun t9 => lI (FP t9))))), (ra, .inl (cI, 256, .inl fA)), (rb, .inl (cI, 256, .inl fB)), (sm, .inr (1, [.ref so])), (so, .inl (cO, 3, .inr (.inr (.inr (.inr g))))), (r0, .inl (cI, 511, .inl R0)), (r1, .inl (cI, 511, .inl R1)), (r2, .inl (cI, 511, .inl R2))]) [0, 1, 2, 3, 4, 5, 6, 7, 8, 9, 10, 11] rfl
  have hDc := hD.sub (ws' := [(xo, .inr (2, [.int (nI k), .ref ra, .ref rb, .int (nI rs), .ref sm, .ref hh, .ref ps, .ref pb])), (hh, .inr (0, [.ref lf, .ref rt, .ref rp])), (lf, .inl (cJ, 512, .inr (.inl (fun t9 => lI (FL t9))))), (rt, .inl (cJ, 512, .inr (.inl (fun t9 => lI (FR t9))))), (rp, .inl (cJ, 256, .inr (.inl (fun t9 => lI (FP t9))))), (ra, .inl (cI, 256, .inl fA)), (rb, .inl (cI, 256, .inl fB)), (sm, .inr (1, [.ref so])), (so, .inl (cO, 3, .inr (.inr (.inr (.inr g))))), (r0, .inl (cI, 511, .inl R0)), (r1, .inl (cI, 511, .inl R1)), (r2, .inl (cI, 511, .inl R2))]) [0, 1, 2, 3, 4, 5, 6, 7, 8, 9, 10, 11] (by decide) rfl
  have hKc := hK.sub (tys' := [(cI, .int), (cJ, .long), (cO, .array .int)]) [0, 1, 2] rfl
  have hFc := va_free (wc := [(xo, .inr (2, [.int (nI k), .ref ra, .ref rb, .int (nI rs), .ref sm, .ref hh, .ref ps, .ref pb])), (hh, .inr (0, [.ref lf, .ref rt, .ref rp])), (lf, .inl (cJ, 512, .inr (.inl (fun t9 => lI (FL t9))))), (rt, .inl (cJ, 512, .inr (.inl (fun t9 => lI (FR t9))))), (rp, .inl (cJ, 256, .inr (.inl (fun t9 => lI (FP t9))))), (ra, .inl (cI, 256, .inl fA)), (rb, .inl (cI, 256, .inl fB)), (sm, .inr (1, [.ref so])), (so, .inl (cO, 3, .inr (.inr (.inr (.inr g))))), (r0, .inl (cI, 511, .inl R0)), (r1, .inl (cI, 511, .inl R1)), (r2, .inl (cI, 511, .inl R2))]) hD hS hA [0, 1, 2, 3, 4, 5, 6, 7, 8, 9, 10, 11] rfl
  refine va_calli (va_runV (As := [.int (nI 0)]) (rest := [.int (nI 0), .ref oa]) ⟨hx, hb, hml, hown, hts⟩ (c_X3_fold_0 l dC dI xo ra rb sm hh ps pb k rs cI cJ cO lf rt rp so r0 r1 r2 g fA fB R0 R1 R2 FL FR FP H.size tP sa zk1 zk hg0 hg1 hg2) (cwV 1 hts gL_fold_X3_fold rfl rfl rfl (by decide +kernel) ⟨Nat.le_of_ble_eq_true rfl, Nat.le_of_ble_eq_true rfl⟩) ⟨fun a U g mk q => by obtain ⟨q0, q1, qP, qK, qD, qM⟩ := q; exact ⟨q0, q1, qP, va_K.moved (u := U) (U := U.calling g mk a) (Vm.Alike.refl U.vm) qK, qD, amb_same (U := U) (U' := U.calling g mk a) rfl rfl qM⟩, va_recv hKc hPc (ci := 2) (q0 := 0) rfl rfl, fun U hU hW => ⟨rfl, by rw [hU], by rw [hU]; exact hPc, va_K.moved hW.alike hKc, hDc.weaken (fun _ _ _ _ => trivial), amb_pass hM hS hFc hW hU⟩⟩ rfl rfl hl.1 rfl (lv_room (Nat.le_of_ble_eq_true rfl)) dL_fold_4 ⟨Nat.le_of_ble_eq_true rfl, Nat.le_of_ble_eq_true rfl⟩) hS (fun q _ h => hFc q h) hFc (fun r9 u9 t9 H1 locs ht hvm hw hB hz1 hk1 hS => ?_)
  obtain ⟨ua_1, ub_2, uc_3⟩ := u9
  obtain ⟨hP1, hD1⟩ := hB
  dsimp only at hP1 hD1
  rw [ht] at hP1
  try dsimp only at hw
  obtain ⟨hP, hD⟩ := va_join (wr := [(oa, .inl (cJ, 1, .inr (.inl (fun t9 => lI (FO t9)))))]) (w1 := [(xo, .inr (2, [.int (nI k), .ref ra, .ref rb, .int (nI (cntK 0 k)), .ref sm, .ref hh, .ref ps, .ref pb])), (hh, .inr (0, [.ref lf, .ref rt, .ref rp])), (lf, .inl (cJ, 512, .inr (.inl (fun t9 => lI ((ua_1 3) t9))))), (rt, .inl (cJ, 512, .inr (.inl (fun t9 => lI ((ub_2 3) t9))))), (rp, .inl (cJ, 256, .inr (.inl (fun t9 => lI ((uc_3 3) t9))))), (ra, .inl (cI, 256, .inl fA)), (rb, .inl (cI, 256, .inl fB)), (sm, .inr (1, [.ref so])), (so, .inl (cO, 3, .inr (.inr (.inr (.inr g))))), (r0, .inl (cI, 511, .inl (stR R0 (fdq 0 fA fB (ua_1 0) (ub_2 0) (uc_3 0) k 998244353) (cntK 0 k)))), (r1, .inl (cI, 511, .inl (stR R1 (fdq 0 fA fB (ua_1 1) (ub_2 1) (uc_3 1) k 167772161) (cntK 0 k)))), (r2, .inl (cI, 511, .inl (stR R2 (fdq 0 fA fB (ua_1 2) (ub_2 2) (uc_3 2) k 469762049) (cntK 0 k))))]) hP hD [0, 1, 2, 3, 4, 5, 6, 7, 8, 9, 10, 11] [12] rfl rfl (by decide) (by decide) hk1 hFc hP1 hD1
  generalize H1 = H at hP hS ⊢
  have hP : va_P (dC, dI) vwCl [(oa, .inl (cJ, 1, .inr (.inl (fun t9 => lI (FO t9))))), (xo, .inr (2, [.int (nI k), .ref ra, .ref rb, .int (nI (cntK 0 k)), .ref sm, .ref hh, .ref ps, .ref pb])), (hh, .inr (0, [.ref lf, .ref rt, .ref rp])), (lf, .inl (cJ, 512, .inr (.inl (fun t9 => lI ((ua_1 3) t9))))), (rt, .inl (cJ, 512, .inr (.inl (fun t9 => lI ((ub_2 3) t9))))), (rp, .inl (cJ, 256, .inr (.inl (fun t9 => lI ((uc_3 3) t9))))), (ra, .inl (cI, 256, .inl fA)), (rb, .inl (cI, 256, .inl fB)), (sm, .inr (1, [.ref so])), (so, .inl (cO, 3, .inr (.inr (.inr (.inr g))))), (r0, .inl (cI, 511, .inl (stR R0 (fdq 0 fA fB (ua_1 0) (ub_2 0) (uc_3 0) k 998244353) (cntK 0 k)))), (r1, .inl (cI, 511, .inl (stR R1 (fdq 0 fA fB (ua_1 1) (ub_2 1) (uc_3 1) k 167772161) (cntK 0 k)))), (r2, .inl (cI, 511, .inl (stR R2 (fdq 0 fA fB (ua_1 2) (ub_2 2) (uc_3 2) k 469762049) (cntK 0 k))))] H := hP
  have hD : va_D A [(oa, .inl (cJ, 1, .inr (.inl (fun t9 => lI (FO t9))))), (xo, .inr (2, [.int (nI k), .ref ra, .ref rb, .int (nI (cntK 0 k)), .ref sm, .ref hh, .ref ps, .ref pb])), (hh, .inr (0, [.ref lf, .ref rt, .ref rp])), (lf, .inl (cJ, 512, .inr (.inl (fun t9 => lI ((ua_1 3) t9))))), (rt, .inl (cJ, 512, .inr (.inl (fun t9 => lI ((ub_2 3) t9))))), (rp, .inl (cJ, 256, .inr (.inl (fun t9 => lI ((uc_3 3) t9))))), (ra, .inl (cI, 256, .inl fA)), (rb, .inl (cI, 256, .inl fB)), (sm, .inr (1, [.ref so])), (so, .inl (cO, 3, .inr (.inr (.inr (.inr g))))), (r0, .inl (cI, 511, .inl (stR R0 (fdq 0 fA fB (ua_1 0) (ub_2 0) (uc_3 0) k 998244353) (cntK 0 k)))), (r1, .inl (cI, 511, .inl (stR R1 (fdq 0 fA fB (ua_1 1) (ub_2 1) (uc_3 1) k 167772161) (cntK 0 k)))), (r2, .inl (cI, 511, .inl (stR R2 (fdq 0 fA fB (ua_1 2) (ub_2 2) (uc_3 2) k 469762049) (cntK 0 k))))] := hD
  clear hPc hDc hKc hFc hP1 hD1 hk1 hz1 hvm ht
  subst hw
  refine lv_i2l (v := lI ((cntK 0 k : Nat) : Int)) hx hb dL_fold_7 (nI_lI (by omega)) ?_
  refine va_last hx hb hK hP hD hS 0 1 rfl rfl (vp_in_nI (by omega) (by omega)) dL_fold_8 (fun H locs hP hD hS => ?_)
  rw [nI_clamp (show 0 < 2 ^ 31 by omega)] at hP hD
  rw [upI_l] at hP hD
  have hP : va_P (dC, dI) vwCl [(oa, .inl (cJ, 1, .inr (.inl (fun t9 => lI ((upI FO 0 ((cntK 0 k : Nat) : Int)) t9))))), (xo, .inr (2, [.int (nI k), .ref ra, .ref rb, .int (nI (cntK 0 k)), .ref sm, .ref hh, .ref ps, .ref pb])), (hh, .inr (0, [.ref lf, .ref rt, .ref rp])), (lf, .inl (cJ, 512, .inr (.inl (fun t9 => lI ((ua_1 3) t9))))), (rt, .inl (cJ, 512, .inr (.inl (fun t9 => lI ((ub_2 3) t9))))), (rp, .inl (cJ, 256, .inr (.inl (fun t9 => lI ((uc_3 3) t9))))), (ra, .inl (cI, 256, .inl fA)), (rb, .inl (cI, 256, .inl fB)), (sm, .inr (1, [.ref so])), (so, .inl (cO, 3, .inr (.inr (.inr (.inr g))))), (r0, .inl (cI, 511, .inl (stR R0 (fdq 0 fA fB (ua_1 0) (ub_2 0) (uc_3 0) k 998244353) (cntK 0 k)))), (r1, .inl (cI, 511, .inl (stR R1 (fdq 0 fA fB (ua_1 1) (ub_2 1) (uc_3 1) k 167772161) (cntK 0 k)))), (r2, .inl (cI, 511, .inl (stR R2 (fdq 0 fA fB (ua_1 2) (ub_2 2) (uc_3 2) k 469762049) (cntK 0 k))))] H := hP
  have hD : va_D A [(oa, .inl (cJ, 1, .inr (.inl (fun t9 => lI ((upI FO 0 ((cntK 0 k : Nat) : Int)) t9))))), (xo, .inr (2, [.int (nI k), .ref ra, .ref rb, .int (nI (cntK 0 k)), .ref sm, .ref hh, .ref ps, .ref pb])), (hh, .inr (0, [.ref lf, .ref rt, .ref rp])), (lf, .inl (cJ, 512, .inr (.inl (fun t9 => lI ((ua_1 3) t9))))), (rt, .inl (cJ, 512, .inr (.inl (fun t9 => lI ((ub_2 3) t9))))), (rp, .inl (cJ, 256, .inr (.inl (fun t9 => lI ((uc_3 3) t9))))), (ra, .inl (cI, 256, .inl fA)), (rb, .inl (cI, 256, .inl fB)), (sm, .inr (1, [.ref so])), (so, .inl (cO, 3, .inr (.inr (.inr (.inr g))))), (r0, .inl (cI, 511, .inl (stR R0 (fdq 0 fA fB (ua_1 0) (ub_2 0) (uc_3 0) k 998244353) (cntK 0 k)))), (r1, .inl (cI, 511, .inl (stR R1 (fdq 0 fA fB (ua_1 1) (ub_2 1) (uc_3 1) k 167772161) (cntK 0 k)))), (r2, .inl (cI, 511, .inl (stR R2 (fdq 0 fA fB (ua_1 2) (ub_2 2) (uc_3 2) k 469762049) (cntK 0 k))))] := hD
  refine lv_goto (tgt := 15) hx hb dL_fold_9 (by decide) ?_
  refine lv_iconst (v := nI 0) hx hb dL_fold_15 (by decide) ?_
  have hP9 : va_P (dC, dI) vwCl [(xo, .inr (2, [.int (nI k), .ref ra, .ref rb, .int (nI (cntK 0 k)), .ref sm, .ref hh, .ref ps, .ref pb])), (hh, .inr (0, [.ref lf, .ref rt, .ref rp])), (lf, .inl (cJ, 512, .inr (.inl (fun t9 => lI ((ua_1 3) t9))))), (rt, .inl (cJ, 512, .inr (.inl (fun t9 => lI ((ub_2 3) t9))))), (rp, .inl (cJ, 256, .inr (.inl (fun t9 => lI ((uc_3 3) t9))))), (ra, .inl (cI, 256, .inl fA)), (rb, .inl (cI, 256, .inl fB)), (sm, .inr (1, [.ref so])), (so, .inl (cO, 3, .inr (.inr (.inr (.inr g))))), (r0, .inl (cI, 511, .inl (stR R0 (fdq 0 fA fB (ua_1 0) (ub_2 0) (uc_3 0) k 998244353) (cntK 0 k)))), (r1, .inl (cI, 511, .inl (stR R1 (fdq 0 fA fB (ua_1 1) (ub_2 1) (uc_3 1) k 167772161) (cntK 0 k)))), (r2, .inl (cI, 511, .inl (stR R2 (fdq 0 fA fB (ua_1 2) (ub_2 2) (uc_3 2) k 469762049) (cntK 0 k)))), (oa, .inl (cJ, 1, .inr (.inl (fun t9 => lI ((upI FO 0 ((cntK 0 k : Nat) : Int)) t9)))))] H := hP.sub [1, 2, 3, 4, 5, 6, 7, 8, 9, 10, 11, 12, 0] rfl
  have hD9 : va_D A [(xo, .inr (2, [.int (nI k), .ref ra, .ref rb, .int (nI (cntK 0 k)), .ref sm, .ref hh, .ref ps, .ref pb])), (hh, .inr (0, [.ref lf, .ref rt, .ref rp])), (lf, .inl (cJ, 512, .inr (.inl (fun t9 => lI ((ua_1 3) t9))))), (rt, .inl (cJ, 512, .inr (.inl (fun t9 => lI ((ub_2 3) t9))))), (rp, .inl (cJ, 256, .inr (.inl (fun t9 => lI ((uc_3 3) t9))))), (ra, .inl (cI, 256, .inl fA)), (rb, .inl (cI, 256, .inl fB)), (sm, .inr (1, [.ref so])), (so, .inl (cO, 3, .inr (.inr (.inr (.inr g))))), (r0, .inl (cI, 511, .inl (stR R0 (fdq 0 fA fB (ua_1 0) (ub_2 0) (uc_3 0) k 998244353) (cntK 0 k)))), (r1, .inl (cI, 511, .inl (stR R1 (fdq 0 fA fB (ua_1 1) (ub_2 1) (uc_3 1) k 167772161) (cntK 0 k)))), (r2, .inl (cI, 511, .inl (stR R2 (fdq 0 fA fB (ua_1 2) (ub_2 2) (uc_3 2) k 469762049) (cntK 0 k)))), (oa, .inl (cJ, 1, .inr (.inl (fun t9 => lI ((upI FO 0 ((cntK 0 k : Nat) : Int)) t9)))))] := hD.sub [1, 2, 3, 4, 5, 6, 7, 8, 9, 10, 11, 12, 0] (by decide) rfl
  exact W.iret (v := nI 0) hx hb hr (fun tq9 ht hW => ⟨⟨nI 0, (ua_1, ub_2, uc_3), rfl, rfl, by rw [ht]; exact hP9, hD9⟩, hS.F ht⟩) hS.2.2 dL_fold_16

abbrev q_L_fold_1 (dC : Nat → ClassId) (dI : Nat → Nat → Nat) (xo ra rb sm hh ps pb k rs : Nat) (cI cJ cO : ClassId) (lf rt rp so r0 r1 r2 : Nat) (g : Nat → Option Nat) (fA fB R0 R1 R2 : Nat → Int32) (FL FR FP : Nat → Int) (oa : Nat) (FO : Nat → Int) (A : Nat → Prop) : Array Value → State → Outcome → State → Prop := va_Qi (fun (r : Int32) (u : Grb) => r = nI 0) (fun u t => va_P (dC, dI) vwCl [(xo, .inr (2, [.int (nI k), .ref ra, .ref rb, .int (nI (cntK 1 k)), .ref sm, .ref hh, .ref ps, .ref pb])), (hh, .inr (0, [.ref lf, .ref rt, .ref rp])), (lf, .inl (cJ, 512, .inr (.inl (fun t9 => lI ((u.1 3) t9))))), (rt, .inl (cJ, 512, .inr (.inl (fun t9 => lI ((u.2.1 3) t9))))), (rp, .inl (cJ, 256, .inr (.inl (fun t9 => lI ((u.2.2 3) t9))))), (ra, .inl (cI, 256, .inl fA)), (rb, .inl (cI, 256, .inl fB)), (sm, .inr (1, [.ref so])), (so, .inl (cO, 3, .inr (.inr (.inr (.inr g))))), (r0, .inl (cI, 511, .inl (stR R0 (fdq 1 fA fB (u.1 0) (u.2.1 0) (u.2.2 0) k 998244353) (cntK 1 k)))), (r1, .inl (cI, 511, .inl (stR R1 (fdq 1 fA fB (u.1 1) (u.2.1 1) (u.2.2 1) k 167772161) (cntK 1 k)))), (r2, .inl (cI, 511, .inl (stR R2 (fdq 1 fA fB (u.1 2) (u.2.1 2) (u.2.2 2) k 469762049) (cntK 1 k)))), (oa, .inl (cJ, 1, .inr (.inl (fun t9 => lI ((upI FO 0 ((cntK 1 k : Nat) : Int)) t9)))))] t.heap ∧ va_D A [(xo, .inr (2, [.int (nI k), .ref ra, .ref rb, .int (nI (cntK 1 k)), .ref sm, .ref hh, .ref ps, .ref pb])), (hh, .inr (0, [.ref lf, .ref rt, .ref rp])), (lf, .inl (cJ, 512, .inr (.inl (fun t9 => lI ((u.1 3) t9))))), (rt, .inl (cJ, 512, .inr (.inl (fun t9 => lI ((u.2.1 3) t9))))), (rp, .inl (cJ, 256, .inr (.inl (fun t9 => lI ((u.2.2 3) t9))))), (ra, .inl (cI, 256, .inl fA)), (rb, .inl (cI, 256, .inl fB)), (sm, .inr (1, [.ref so])), (so, .inl (cO, 3, .inr (.inr (.inr (.inr g))))), (r0, .inl (cI, 511, .inl (stR R0 (fdq 1 fA fB (u.1 0) (u.2.1 0) (u.2.2 0) k 998244353) (cntK 1 k)))), (r1, .inl (cI, 511, .inl (stR R1 (fdq 1 fA fB (u.1 1) (u.2.1 1) (u.2.2 1) k 167772161) (cntK 1 k)))), (r2, .inl (cI, 511, .inl (stR R2 (fdq 1 fA fB (u.1 2) (u.2.1 2) (u.2.2 2) k 469762049) (cntK 1 k)))), (oa, .inl (cJ, 1, .inr (.inl (fun t9 => lI ((upI FO 0 ((cntK 1 k : Nat) : Int)) t9)))))]) A
set_option maxHeartbeats 4000000 in
set_option maxRecDepth 100000 in
theorem c_L_fold_1 (l : Launch) (dC : Nat → ClassId) (dI : Nat → Nat → Nat) (xo ra rb sm hh ps pb k rs : Nat) (cI cJ cO : ClassId) (lf rt rp so r0 r1 r2 : Nat) (g : Nat → Option Nat) (fA fB R0 R1 R2 : Nat → Int32) (FL FR FP : Nat → Int) (oa : Nat) (FO : Nat → Int) (sz : Nat) (tP : Nat) (sa : Nat → Nat) (zk1 : 1 ≤ k) (zk : k ≤ 8) (hg0 : g 0 = some r0) (hg1 : g 1 = some r1) (hg2 : g 2 = some r2) : Met l yL_fold wsL_fold ({ frames := 6, cells := 0, slots := 0, locals := 153 }) (va_Pc [.ref xo, .int (nI 1), .ref oa] (fun U => U.heap.size = sz ∧ va_P (dC, dI) vwCl [(xo, .inr (2, [.int (nI k), .ref ra, .ref rb, .int (nI rs), .ref sm, .ref hh, .ref ps, .ref pb])), (hh, .inr (0, [.ref lf, .ref rt, .ref rp])), (lf, .inl (cJ, 512, .inr (.inl (fun t9 => lI (FL t9))))), (rt, .inl (cJ, 512, .inr (.inl (fun t9 => lI (FR t9))))), (rp, .inl (cJ, 256, .inr (.inl (fun t9 => lI (FP t9))))), (ra, .inl (cI, 256, .inl fA)), (rb, .inl (cI, 256, .inl fB)), (sm, .inr (1, [.ref so])), (so, .inl (cO, 3, .inr (.inr (.inr (.inr g))))), (r0, .inl (cI, 511, .inl R0)), (r1, .inl (cI, 511, .inl R1)), (r2, .inl (cI, 511, .inl R2)), (oa, .inl (cJ, 1, .inr (.inl (fun t9 => lI (FO t9)))))] U.heap ∧ va_K (dC, dI) vwCl [(cI, .int), (cJ, .long), (cO, .array .int)] U ∧ va_D (fun _ => True) [(xo, .inr (2, [.int (nI k), .ref ra, .ref rb, .int (nI rs), .ref sm, .ref hh, .ref ps, .ref pb])), (hh, .inr (0, [.ref lf, .ref rt, .ref rp])), (lf, .inl (cJ, 512, .inr (.inl (fun t9 => lI (FL t9))))), (rt, .inl (cJ, 512, .inr (.inl (fun t9 => lI (FR t9))))), (rp, .inl (cJ, 256, .inr (.inl (fun t9 => lI (FP t9))))), (ra, .inl (cI, 256, .inl fA)), (rb, .inl (cI, 256, .inl fB)), (sm, .inr (1, [.ref so])), (so, .inl (cO, 3, .inr (.inr (.inr (.inr g))))), (r0, .inl (cI, 511, .inl R0)), (r1, .inl (cI, 511, .inl R1)), (r2, .inl (cI, 511, .inl R2)), (oa, .inl (cJ, 1, .inr (.inl (fun t9 => lI (FO t9)))))] ∧ amb tP sa (va_A [(xo, .inr (2, [.int (nI k), .ref ra, .ref rb, .int (nI rs), .ref sm, .ref hh, .ref ps, .ref pb])), (hh, .inr (0, [.ref lf, .ref rt, .ref rp])), (lf, .inl (cJ, 512, .inr (.inl (fun t9 => lI (FL t9))))), (rt, .inl (cJ, 512, .inr (.inl (fun t9 => lI (FR t9))))), (rp, .inl (cJ, 256, .inr (.inl (fun t9 => lI (FP t9))))), (ra, .inl (cI, 256, .inl fA)), (rb, .inl (cI, 256, .inl fB)), (sm, .inr (1, [.ref so])), (so, .inl (cO, 3, .inr (.inr (.inr (.inr g))))), (r0, .inl (cI, 511, .inl R0)), (r1, .inl (cI, 511, .inl R1)), (r2, .inl (cI, 511, .inl R2)), (oa, .inl (cJ, 1, .inr (.inl (fun t9 => lI (FO t9)))))] sz) U U.heap)) (q_L_fold_1 dC dI xo ra rb sm hh ps pb k rs cI cJ cO lf rt rp so r0 r1 r2 g fA fB R0 R1 R2 FL FR FP oa FO (va_A [(xo, .inr (2, [.int (nI k), .ref ra, .ref rb, .int (nI rs), .ref sm, .ref hh, .ref ps, .ref pb])), (hh, .inr (0, [.ref lf, .ref rt, .ref rp])), (lf, .inl (cJ, 512, .inr (.inl (fun t9 => lI (FL t9))))), (rt, .inl (cJ, 512, .inr (.inl (fun t9 => lI (FR t9))))), (rp, .inl (cJ, 256, .inr (.inl (fun t9 => lI (FP t9))))), (ra, .inl (cI, 256, .inl fA)), (rb, .inl (cI, 256, .inl fB)), (sm, .inr (1, [.ref so])), (so, .inl (cO, 3, .inr (.inr (.inr (.inr g))))), (r0, .inl (cI, 511, .inl R0)), (r1, .inl (cI, 511, .inl R1)), (r2, .inl (cI, 511, .inl R2)), (oa, .inl (cJ, 1, .inr (.inl (fun t9 => lI (FO t9)))))] sz)) 0 0 (va_A [(xo, .inr (2, [.int (nI k), .ref ra, .ref rb, .int (nI rs), .ref sm, .ref hh, .ref ps, .ref pb])), (hh, .inr (0, [.ref lf, .ref rt, .ref rp])), (lf, .inl (cJ, 512, .inr (.inl (fun t9 => lI (FL t9))))), (rt, .inl (cJ, 512, .inr (.inl (fun t9 => lI (FR t9))))), (rp, .inl (cJ, 256, .inr (.inl (fun t9 => lI (FP t9))))), (ra, .inl (cI, 256, .inl fA)), (rb, .inl (cI, 256, .inl fB)), (sm, .inr (1, [.ref so])), (so, .inl (cO, 3, .inr (.inr (.inr (.inr g))))), (r0, .inl (cI, 511, .inl R0)), (r1, .inl (cI, 511, .inl R1)), (r2, .inl (cI, 511, .inl R2)), (oa, .inl (cJ, 1, .inr (.inl (fun t9 => lI (FO t9)))))] sz) := by
  refine va_MetW (cc := cL_fold) (maxL := 4) (ret := (some .int)) (hh := [(0, 9, 12, 13)]) (by decide) rfl ?_
  intro p e s m args below meth c s₁ B hml hv
  obtain ⟨rfl, hsz, hP, hK, hD0, hM⟩ := hv
  have hx := B.exec
  have hb := B.bytes
  have hr := B.returns
  have hts := atoms_spec (ws := wsL_fold) B.pre
  have hown : s.vm.findClass RL = some m.cls := findClass_of_methodNamed B.named
  have hlocks := B.notSynchronized
  have htab := vx_table (x := yL_fold) B (hts (.codeWith yL_fold cL_fold 4 (some .int) [(0, 9, 12, 13)]) List.mem_cons_self)
  subst hsz
  have hD := hD0.self (sz := s.heap.size)
  generalize hAe : va_A [(xo, .inr (2, [.int (nI k), .ref ra, .ref rb, .int (nI rs), .ref sm, .ref hh, .ref ps, .ref pb])), (hh, .inr (0, [.ref lf, .ref rt, .ref rp])), (lf, .inl (cJ, 512, .inr (.inl (fun t9 => lI (FL t9))))), (rt, .inl (cJ, 512, .inr (.inl (fun t9 => lI (FR t9))))), (rp, .inl (cJ, 256, .inr (.inl (fun t9 => lI (FP t9))))), (ra, .inl (cI, 256, .inl fA)), (rb, .inl (cI, 256, .inl fB)), (sm, .inr (1, [.ref so])), (so, .inl (cO, 3, .inr (.inr (.inr (.inr g))))), (r0, .inl (cI, 511, .inl R0)), (r1, .inl (cI, 511, .inl R1)), (r2, .inl (cI, 511, .inl R2)), (oa, .inl (cJ, 1, .inr (.inl (fun t9 => lI (FO t9)))))] s.heap.size = A at hD hM ⊢
  have hA : ∀ q : Nat, s.heap.size ≤ q → A q := fun q h => by rw [← hAe]; exact Or.inr h
  have hS : va_S A s.heap s.heap [] := va_S.rf
  have hP : va_P (dC, dI) vwCl [(xo, .inr (2, [.int (nI k), .ref ra, .ref rb, .int (nI rs), .ref sm, .ref hh, .ref ps, .ref pb])), (hh, .inr (0, [.ref lf, .ref rt, .ref rp])), (lf, .inl (cJ, 512, .inr (.inl (fun t9 => lI (FL t9))))), (rt, .inl (cJ, 512, .inr (.inl (fun t9 => lI (FR t9))))), (rp, .inl (cJ, 256, .inr (.inl (fun t9 => lI (FP t9))))), (ra, .inl (cI, 256, .inl fA)), (rb, .inl (cI, 256, .inl fB)), (sm, .inr (1, [.ref so])), (so, .inl (cO, 3, .inr (.inr (.inr (.inr g))))), (r0, .inl (cI, 511, .inl R0)), (r1, .inl (cI, 511, .inl R1)), (r2, .inl (cI, 511, .inl R2)), (oa, .inl (cJ, 1, .inr (.inl (fun t9 => lI (FO t9)))))] s.heap := hP
  have hl := lv_entry (([.ref xo, .int (nI 1), .ref oa] : List Value)) (n := 4) (Nat.le_of_ble_eq_true rfl)
  rw [lg_entry_eq]
  generalize (lg_sl (([.ref xo, .int (nI 1), .ref oa] : List Value)) ++ List.replicate (4 - (lg_sl (([.ref xo, .int (nI 1), .ref oa] : List Value))).length) Slot.unset).toArray = ls at hl ⊢
  have hl : lv_has ls 4 [(0, .ref xo), (1, .int (nI 1)), (2, .ref oa)] := hl
  obtain ⟨H, hHe⟩ : ∃ H : Heap, H = s.heap := ⟨_, rfl⟩
  rw [← hHe] at hP
  have hS : va_S A s.heap H [] := by rw [hHe]; exact hS
  obtain ⟨locs, hlo⟩ : ∃ L : List Loc, L = [] := ⟨_, rfl⟩
  rw [← hlo] at hS ⊢
  rw [← hHe]
  have hcn := cnt_b (kd := 1) (k := k) (by omega) zk
  refine lv_aload_n hx hb dL_fold_0 rfl (lv_at hl 2 rfl) ?_
  refine lv_iconst (v := nI 0) hx hb dL_fold_1 (by decide) ?_
  refine lv_aload_n hx hb dL_fold_2 rfl (lv_at hl 0 rfl) ?_
  refine lv_iload_n hx hb dL_fold_3 rfl (lv_at hl 1 rfl) ?_
  have hPc := hP.sub (ws' := [(xo, .inr (2, [.int (nI k), .ref ra, .ref rb, .int (nI rs), .ref sm, .ref hh, .ref ps, .ref pb])), (hh, .inr (0, [.ref lf, .ref rt, .ref rp])), (lf, .inl (cJ, 512, .inr (.inl (fun t9 => lI (FL t9))))), (rt, .inl (cJ, 512, .inr (.inl (fun t9 => lI (FR t9))))), (rp, .inl (cJ, 256, .inr (.inl (fun t9 => lI (FP t9))))), (ra, .inl (cI, 256, .inl fA)), (rb, .inl (cI, 256, .inl fB)), (sm, .inr (1, [.ref so])), (so, .inl (cO, 3, .inr (.inr (.inr (.inr g))))), (r0, .inl (cI, 511, .inl R0)), (r1, .inl (cI, 511, .inl R1)), (r2, .inl (cI, 511, .inl R2))]) [0, 1, 2, 3, 4, 5, 6, 7, 8, 9, 10, 11] rfl
  have hDc := hD.sub (ws' := [(xo, .inr (2, [.int (nI k), .ref ra, .ref rb, .int (nI rs), .ref sm, .ref hh, .ref ps, .ref pb])), (hh, .inr (0, [.ref lf, .ref rt, .ref rp])), (lf, .inl (cJ, 512, .inr (.inl (fun t9 => lI (FL t9))))), (rt, .inl (cJ, 512, .inr (.inl (fun t9 => lI (FR t9))))), (rp, .inl (cJ, 256, .inr (.inl (fun t9 => lI (FP t9))))), (ra, .inl (cI, 256, .inl fA)), (rb, .inl (cI, 256, .inl fB)), (sm, .inr (1, [.ref so])), (so, .inl (cO, 3, .inr (.inr (.inr (.inr g))))), (r0, .inl (cI, 511, .inl R0)), (r1, .inl (cI, 511, .inl R1)), (r2, .inl (cI, 511, .inl R2))]) [0, 1, 2, 3, 4, 5, 6, 7, 8, 9, 10, 11] (by decide) rfl
  have hKc := hK.sub (tys' := [(cI, .int), (cJ, .long), (cO, .array .int)]) [0, 1, 2] rfl
  have hFc := va_free (wc := [(xo, .inr (2, [.int (nI k), .ref ra, .ref rb, .int (nI rs), .ref sm, .ref hh, .ref ps, .ref pb])), (hh, .inr (0, [.ref lf, .ref rt, .ref rp])), (lf, .inl (cJ, 512, .inr (.inl (fun t9 => lI (FL t9))))), (rt, .inl (cJ, 512, .inr (.inl (fun t9 => lI (FR t9))))), (rp, .inl (cJ, 256, .inr (.inl (fun t9 => lI (FP t9))))), (ra, .inl (cI, 256, .inl fA)), (rb, .inl (cI, 256, .inl fB)), (sm, .inr (1, [.ref so])), (so, .inl (cO, 3, .inr (.inr (.inr (.inr g))))), (r0, .inl (cI, 511, .inl R0)), (r1, .inl (cI, 511, .inl R1)), (r2, .inl (cI, 511, .inl R2))]) hD hS hA [0, 1, 2, 3, 4, 5, 6, 7, 8, 9, 10, 11] rfl
  refine va_calli (va_runV (As := [.int (nI 1)]) (rest := [.int (nI 0), .ref oa]) ⟨hx, hb, hml, hown, hts⟩ (c_X3_fold_1 l dC dI xo ra rb sm hh ps pb k rs cI cJ cO lf rt rp so r0 r1 r2 g fA fB R0 R1 R2 FL FR FP H.size tP sa zk1 zk hg0 hg1 hg2) (cwV 1 hts gL_fold_X3_fold rfl rfl rfl (by decide +kernel) ⟨Nat.le_of_ble_eq_true rfl, Nat.le_of_ble_eq_true rfl⟩) ⟨fun a U g mk q => by obtain ⟨q0, q1, qP, qK, qD, qM⟩ := q; exact ⟨q0, q1, qP, va_K.moved (u := U) (U := U.calling g mk a) (Vm.Alike.refl U.vm) qK, qD, amb_same (U := U) (U' := U.calling g mk a) rfl rfl qM⟩, va_recv hKc hPc (ci := 2) (q0 := 0) rfl rfl, fun U hU hW => ⟨rfl, by rw [hU], by rw [hU]; exact hPc, va_K.moved hW.alike hKc, hDc.weaken (fun _ _ _ _ => trivial), amb_pass hM hS hFc hW hU⟩⟩ rfl rfl hl.1 rfl (lv_room (Nat.le_of_ble_eq_true rfl)) dL_fold_4 ⟨Nat.le_of_ble_eq_true rfl, Nat.le_of_ble_eq_true rfl⟩) hS (fun q _ h => hFc q h) hFc (fun r9 u9 t9 H1 locs ht hvm hw hB hz1 hk1 hS => ?_)
  obtain ⟨ua_1, ub_2, uc_3⟩ := u9
  obtain ⟨hP1, hD1⟩ := hB
  dsimp only at hP1 hD1
  rw [ht] at hP1
  try dsimp only at hw
  obtain ⟨hP, hD⟩ := va_join (wr := [(oa, .inl (cJ, 1, .inr (.inl (fun t9 => lI (FO t9)))))]) (w1 := [(xo, .inr (2, [.int (nI k), .ref ra, .ref rb, .int (nI (cntK 1 k)), .ref sm, .ref hh, .ref ps, .ref pb])), (hh, .inr (0, [.ref lf, .ref rt, .ref rp])), (lf, .inl (cJ, 512, .inr (.inl (fun t9 => lI ((ua_1 3) t9))))), (rt, .inl (cJ, 512, .inr (.inl (fun t9 => lI ((ub_2 3) t9))))), (rp, .inl (cJ, 256, .inr (.inl (fun t9 => lI ((uc_3 3) t9))))), (ra, .inl (cI, 256, .inl fA)), (rb, .inl (cI, 256, .inl fB)), (sm, .inr (1, [.ref so])), (so, .inl (cO, 3, .inr (.inr (.inr (.inr g))))), (r0, .inl (cI, 511, .inl (stR R0 (fdq 1 fA fB (ua_1 0) (ub_2 0) (uc_3 0) k 998244353) (cntK 1 k)))), (r1, .inl (cI, 511, .inl (stR R1 (fdq 1 fA fB (ua_1 1) (ub_2 1) (uc_3 1) k 167772161) (cntK 1 k)))), (r2, .inl (cI, 511, .inl (stR R2 (fdq 1 fA fB (ua_1 2) (ub_2 2) (uc_3 2) k 469762049) (cntK 1 k))))]) hP hD [0, 1, 2, 3, 4, 5, 6, 7, 8, 9, 10, 11] [12] rfl rfl (by decide) (by decide) hk1 hFc hP1 hD1
  generalize H1 = H at hP hS ⊢
  have hP : va_P (dC, dI) vwCl [(oa, .inl (cJ, 1, .inr (.inl (fun t9 => lI (FO t9))))), (xo, .inr (2, [.int (nI k), .ref ra, .ref rb, .int (nI (cntK 1 k)), .ref sm, .ref hh, .ref ps, .ref pb])), (hh, .inr (0, [.ref lf, .ref rt, .ref rp])), (lf, .inl (cJ, 512, .inr (.inl (fun t9 => lI ((ua_1 3) t9))))), (rt, .inl (cJ, 512, .inr (.inl (fun t9 => lI ((ub_2 3) t9))))), (rp, .inl (cJ, 256, .inr (.inl (fun t9 => lI ((uc_3 3) t9))))), (ra, .inl (cI, 256, .inl fA)), (rb, .inl (cI, 256, .inl fB)), (sm, .inr (1, [.ref so])), (so, .inl (cO, 3, .inr (.inr (.inr (.inr g))))), (r0, .inl (cI, 511, .inl (stR R0 (fdq 1 fA fB (ua_1 0) (ub_2 0) (uc_3 0) k 998244353) (cntK 1 k)))), (r1, .inl (cI, 511, .inl (stR R1 (fdq 1 fA fB (ua_1 1) (ub_2 1) (uc_3 1) k 167772161) (cntK 1 k)))), (r2, .inl (cI, 511, .inl (stR R2 (fdq 1 fA fB (ua_1 2) (ub_2 2) (uc_3 2) k 469762049) (cntK 1 k))))] H := hP
  have hD : va_D A [(oa, .inl (cJ, 1, .inr (.inl (fun t9 => lI (FO t9))))), (xo, .inr (2, [.int (nI k), .ref ra, .ref rb, .int (nI (cntK 1 k)), .ref sm, .ref hh, .ref ps, .ref pb])), (hh, .inr (0, [.ref lf, .ref rt, .ref rp])), (lf, .inl (cJ, 512, .inr (.inl (fun t9 => lI ((ua_1 3) t9))))), (rt, .inl (cJ, 512, .inr (.inl (fun t9 => lI ((ub_2 3) t9))))), (rp, .inl (cJ, 256, .inr (.inl (fun t9 => lI ((uc_3 3) t9))))), (ra, .inl (cI, 256, .inl fA)), (rb, .inl (cI, 256, .inl fB)), (sm, .inr (1, [.ref so])), (so, .inl (cO, 3, .inr (.inr (.inr (.inr g))))), (r0, .inl (cI, 511, .inl (stR R0 (fdq 1 fA fB (ua_1 0) (ub_2 0) (uc_3 0) k 998244353) (cntK 1 k)))), (r1, .inl (cI, 511, .inl (stR R1 (fdq 1 fA fB (ua_1 1) (ub_2 1) (uc_3 1) k 167772161) (cntK 1 k)))), (r2, .inl (cI, 511, .inl (stR R2 (fdq 1 fA fB (ua_1 2) (ub_2 2) (uc_3 2) k 469762049) (cntK 1 k))))] := hD
  clear hPc hDc hKc hFc hP1 hD1 hk1 hz1 hvm ht
  subst hw
  refine lv_i2l (v := lI ((cntK 1 k : Nat) : Int)) hx hb dL_fold_7 (nI_lI (by omega)) ?_
  refine va_last hx hb hK hP hD hS 0 1 rfl rfl (vp_in_nI (by omega) (by omega)) dL_fold_8 (fun H locs hP hD hS => ?_)
  rw [nI_clamp (show 0 < 2 ^ 31 by omega)] at hP hD
  rw [upI_l] at hP hD
  have hP : va_P (dC, dI) vwCl [(oa, .inl (cJ, 1, .inr (.inl (fun t9 => lI ((upI FO 0 ((cntK 1 k : Nat) : Int)) t9))))), (xo, .inr (2, [.int (nI k), .ref ra, .ref rb, .int (nI (cntK 1 k)), .ref sm, .ref hh, .ref ps, .ref pb])), (hh, .inr (0, [.ref lf, .ref rt, .ref rp])), (lf, .inl (cJ, 512, .inr (.inl (fun t9 => lI ((ua_1 3) t9))))), (rt, .inl (cJ, 512, .inr (.inl (fun t9 => lI ((ub_2 3) t9))))), (rp, .inl (cJ, 256, .inr (.inl (fun t9 => lI ((uc_3 3) t9))))), (ra, .inl (cI, 256, .inl fA)), (rb, .inl (cI, 256, .inl fB)), (sm, .inr (1, [.ref so])), (so, .inl (cO, 3, .inr (.inr (.inr (.inr g))))), (r0, .inl (cI, 511, .inl (stR R0 (fdq 1 fA fB (ua_1 0) (ub_2 0) (uc_3 0) k 998244353) (cntK 1 k)))), (r1, .inl (cI, 511, .inl (stR R1 (fdq 1 fA fB (ua_1 1) (ub_2 1) (uc_3 1) k 167772161) (cntK 1 k)))), (r2, .inl (cI, 511, .inl (stR R2 (fdq 1 fA fB (ua_1 2) (ub_2 2) (uc_3 2) k 469762049) (cntK 1 k))))] H := hP
  have hD : va_D A [(oa, .inl (cJ, 1, .inr (.inl (fun t9 => lI ((upI FO 0 ((cntK 1 k : Nat) : Int)) t9))))), (xo, .inr (2, [.int (nI k), .ref ra, .ref rb, .int (nI (cntK 1 k)), .ref sm, .ref hh, .ref ps, .ref pb])), (hh, .inr (0, [.ref lf, .ref rt, .ref rp])), (lf, .inl (cJ, 512, .inr (.inl (fun t9 => lI ((ua_1 3) t9))))), (rt, .inl (cJ, 512, .inr (.inl (fun t9 => lI ((ub_2 3) t9))))), (rp, .inl (cJ, 256, .inr (.inl (fun t9 => lI ((uc_3 3) t9))))), (ra, .inl (cI, 256, .inl fA)), (rb, .inl (cI, 256, .inl fB)), (sm, .inr (1, [.ref so])), (so, .inl (cO, 3, .inr (.inr (.inr (.inr g))))), (r0, .inl (cI, 511, .inl (stR R0 (fdq 1 fA fB (ua_1 0) (ub_2 0) (uc_3 0) k 998244353) (cntK 1 k)))), (r1, .inl (cI, 511, .inl (stR R1 (fdq 1 fA fB (ua_1 1) (ub_2 1) (uc_3 1) k 167772161) (cntK 1 k)))), (r2, .inl (cI, 511, .inl (stR R2 (fdq 1 fA fB (ua_1 2) (ub_2 2) (uc_3 2) k 469762049) (cntK 1 k))))] := hD
  refine lv_goto (tgt := 15) hx hb dL_fold_9 (by decide) ?_
  refine lv_iconst (v := nI 0) hx hb dL_fold_15 (by decide) ?_
  have hP9 : va_P (dC, dI) vwCl [(xo, .inr (2, [.int (nI k), .ref ra, .ref rb, .int (nI (cntK 1 k)), .ref sm, .ref hh, .ref ps, .ref pb])), (hh, .inr (0, [.ref lf, .ref rt, .ref rp])), (lf, .inl (cJ, 512, .inr (.inl (fun t9 => lI ((ua_1 3) t9))))), (rt, .inl (cJ, 512, .inr (.inl (fun t9 => lI ((ub_2 3) t9))))), (rp, .inl (cJ, 256, .inr (.inl (fun t9 => lI ((uc_3 3) t9))))), (ra, .inl (cI, 256, .inl fA)), (rb, .inl (cI, 256, .inl fB)), (sm, .inr (1, [.ref so])), (so, .inl (cO, 3, .inr (.inr (.inr (.inr g))))), (r0, .inl (cI, 511, .inl (stR R0 (fdq 1 fA fB (ua_1 0) (ub_2 0) (uc_3 0) k 998244353) (cntK 1 k)))), (r1, .inl (cI, 511, .inl (stR R1 (fdq 1 fA fB (ua_1 1) (ub_2 1) (uc_3 1) k 167772161) (cntK 1 k)))), (r2, .inl (cI, 511, .inl (stR R2 (fdq 1 fA fB (ua_1 2) (ub_2 2) (uc_3 2) k 469762049) (cntK 1 k)))), (oa, .inl (cJ, 1, .inr (.inl (fun t9 => lI ((upI FO 0 ((cntK 1 k : Nat) : Int)) t9)))))] H := hP.sub [1, 2, 3, 4, 5, 6, 7, 8, 9, 10, 11, 12, 0] rfl
  have hD9 : va_D A [(xo, .inr (2, [.int (nI k), .ref ra, .ref rb, .int (nI (cntK 1 k)), .ref sm, .ref hh, .ref ps, .ref pb])), (hh, .inr (0, [.ref lf, .ref rt, .ref rp])), (lf, .inl (cJ, 512, .inr (.inl (fun t9 => lI ((ua_1 3) t9))))), (rt, .inl (cJ, 512, .inr (.inl (fun t9 => lI ((ub_2 3) t9))))), (rp, .inl (cJ, 256, .inr (.inl (fun t9 => lI ((uc_3 3) t9))))), (ra, .inl (cI, 256, .inl fA)), (rb, .inl (cI, 256, .inl fB)), (sm, .inr (1, [.ref so])), (so, .inl (cO, 3, .inr (.inr (.inr (.inr g))))), (r0, .inl (cI, 511, .inl (stR R0 (fdq 1 fA fB (ua_1 0) (ub_2 0) (uc_3 0) k 998244353) (cntK 1 k)))), (r1, .inl (cI, 511, .inl (stR R1 (fdq 1 fA fB (ua_1 1) (ub_2 1) (uc_3 1) k 167772161) (cntK 1 k)))), (r2, .inl (cI, 511, .inl (stR R2 (fdq 1 fA fB (ua_1 2) (ub_2 2) (uc_3 2) k 469762049) (cntK 1 k)))), (oa, .inl (cJ, 1, .inr (.inl (fun t9 => lI ((upI FO 0 ((cntK 1 k : Nat) : Int)) t9)))))] := hD.sub [1, 2, 3, 4, 5, 6, 7, 8, 9, 10, 11, 12, 0] (by decide) rfl
  exact W.iret (v := nI 0) hx hb hr (fun tq9 ht hW => ⟨⟨nI 0, (ua_1, ub_2, uc_3), rfl, rfl, by rw [ht]; exact hP9, hD9⟩, hS.F ht⟩) hS.2.2 dL_fold_16

abbrev q_L_fold_2 (dC : Nat → ClassId) (dI : Nat → Nat → Nat) (xo ra rb sm hh ps pb k rs : Nat) (cI cJ cO : ClassId) (lf rt rp so r0 r1 r2 : Nat) (g : Nat → Option Nat) (fA fB R0 R1 R2 : Nat → Int32) (FL FR FP : Nat → Int) (oa : Nat) (FO : Nat → Int) (A : Nat → Prop) : Array Value → State → Outcome → State → Prop := va_Qi (fun (r : Int32) (u : Grb) => r = nI 0) (fun u t => va_P (dC, dI) vwCl [(xo, .inr (2, [.int (nI k), .ref ra, .ref rb, .int (nI (cntK 2 k)), .ref sm, .ref hh, .ref ps, .ref pb])), (hh, .inr (0, [.ref lf, .ref rt, .ref rp])), (lf, .inl (cJ, 512, .inr (.inl (fun t9 => lI ((u.1 3) t9))))), (rt, .inl (cJ, 512, .inr (.inl (fun t9 => lI ((u.2.1 3) t9))))), (rp, .inl (cJ, 256, .inr (.inl (fun t9 => lI ((u.2.2 3) t9))))), (ra, .inl (cI, 256, .inl fA)), (rb, .inl (cI, 256, .inl fB)), (sm, .inr (1, [.ref so])), (so, .inl (cO, 3, .inr (.inr (.inr (.inr g))))), (r0, .inl (cI, 511, .inl (stR R0 (fdq 2 fA fB (u.1 0) (u.2.1 0) (u.2.2 0) k 998244353) (cntK 2 k)))), (r1, .inl (cI, 511, .inl (stR R1 (fdq 2 fA fB (u.1 1) (u.2.1 1) (u.2.2 1) k 167772161) (cntK 2 k)))), (r2, .inl (cI, 511, .inl (stR R2 (fdq 2 fA fB (u.1 2) (u.2.1 2) (u.2.2 2) k 469762049) (cntK 2 k)))), (oa, .inl (cJ, 1, .inr (.inl (fun t9 => lI ((upI FO 0 ((cntK 2 k : Nat) : Int)) t9)))))] t.heap ∧ va_D A [(xo, .inr (2, [.int (nI k), .ref ra, .ref rb, .int (nI (cntK 2 k)), .ref sm, .ref hh, .ref ps, .ref pb])), (hh, .inr (0, [.ref lf, .ref rt, .ref rp])), (lf, .inl (cJ, 512, .inr (.inl (fun t9 => lI ((u.1 3) t9))))), (rt, .inl (cJ, 512, .inr (.inl (fun t9 => lI ((u.2.1 3) t9))))), (rp, .inl (cJ, 256, .inr (.inl (fun t9 => lI ((u.2.2 3) t9))))), (ra, .inl (cI, 256, .inl fA)), (rb, .inl (cI, 256, .inl fB)), (sm, .inr (1, [.ref so])), (so, .inl (cO, 3, .inr (.inr (.inr (.inr g))))), (r0, .inl (cI, 511, .inl (stR R0 (fdq 2 fA fB (u.1 0) (u.2.1 0) (u.2.2 0) k 998244353) (cntK 2 k)))), (r1, .inl (cI, 511, .inl (stR R1 (fdq 2 fA fB (u.1 1) (u.2.1 1) (u.2.2 1) k 167772161) (cntK 2 k)))), (r2, .inl (cI, 511, .inl (stR R2 (fdq 2 fA fB (u.1 2) (u.2.1 2) (u.2.2 2) k 469762049) (cntK 2 k)))), (oa, .inl (cJ, 1, .inr (.inl (fun t9 => lI ((upI FO 0 ((cntK 2 k : Nat) : Int)) t9)))))]) A
set_option maxHeartbeats 4000000 in
set_option maxRecDepth 100000 in
theorem c_L_fold_2 (l : Launch) (dC : Nat → ClassId) (dI : Nat → Nat → Nat) (xo ra rb sm hh ps pb k rs : Nat) (cI cJ cO : ClassId) (lf rt rp so r0 r1 r2 : Nat) (g : Nat → Option Nat) (fA fB R0 R1 R2 : Nat → Int32) (FL FR FP : Nat → Int) (oa : Nat) (FO : Nat → Int) (sz : Nat) (tP : Nat) (sa : Nat → Nat) (zk1 : 1 ≤ k) (zk : k ≤ 8) (hg0 : g 0 = some r0) (hg1 : g 1 = some r1) (hg2 : g 2 = some r2) : Met l yL_fold wsL_fold ({ frames := 6, cells := 0, slots := 0, locals := 153 }) (va_Pc [.ref xo, .int (nI 2), .ref oa] (fun U => U.heap.size = sz ∧ va_P (dC, dI) vwCl [(xo, .inr (2, [.int (nI k), .ref ra, .ref rb, .int (nI rs), .ref sm, .ref hh, .ref ps, .ref pb])), (hh, .inr (0, [.ref lf, .ref rt, .ref rp])), (lf, .inl (cJ, 512, .inr (.inl (fun t9 => lI (FL t9))))), (rt, .inl (cJ, 512, .inr (.inl (fun t9 => lI (FR t9))))), (rp, .inl (cJ, 256, .inr (.inl (fun t9 => lI (FP t9))))), (ra, .inl (cI, 256, .inl fA)), (rb, .inl (cI, 256, .inl fB)), (sm, .inr (1, [.ref so])), (so, .inl (cO, 3, .inr (.inr (.inr (.inr g))))), (r0, .inl (cI, 511, .inl R0)), (r1, .inl (cI, 511, .inl R1)), (r2, .inl (cI, 511, .inl R2)), (oa, .inl (cJ, 1, .inr (.inl (fun t9 => lI (FO t9)))))] U.heap ∧ va_K (dC, dI) vwCl [(cI, .int), (cJ, .long), (cO, .array .int)] U ∧ va_D (fun _ => True) [(xo, .inr (2, [.int (nI k), .ref ra, .ref rb, .int (nI rs), .ref sm, .ref hh, .ref ps, .ref pb])), (hh, .inr (0, [.ref lf, .ref rt, .ref rp])), (lf, .inl (cJ, 512, .inr (.inl (fun t9 => lI (FL t9))))), (rt, .inl (cJ, 512, .inr (.inl (fun t9 => lI (FR t9))))), (rp, .inl (cJ, 256, .inr (.inl (fun t9 => lI (FP t9))))), (ra, .inl (cI, 256, .inl fA)), (rb, .inl (cI, 256, .inl fB)), (sm, .inr (1, [.ref so])), (so, .inl (cO, 3, .inr (.inr (.inr (.inr g))))), (r0, .inl (cI, 511, .inl R0)), (r1, .inl (cI, 511, .inl R1)), (r2, .inl (cI, 511, .inl R2)), (oa, .inl (cJ, 1, .inr (.inl (fun t9 => lI (FO t9)))))] ∧ amb tP sa (va_A [(xo, .inr (2, [.int (nI k), .ref ra, .ref rb, .int (nI rs), .ref sm, .ref hh, .ref ps, .ref pb])), (hh, .inr (0, [.ref lf, .ref rt, .ref rp])), (lf, .inl (cJ, 512, .inr (.inl (fun t9 => lI (FL t9))))), (rt, .inl (cJ, 512, .inr (.inl (fun t9 => lI (FR t9))))), (rp, .inl (cJ, 256, .inr (.inl (fun t9 => lI (FP t9))))), (ra, .inl (cI, 256, .inl fA)), (rb, .inl (cI, 256, .inl fB)), (sm, .inr (1, [.ref so])), (so, .inl (cO, 3, .inr (.inr (.inr (.inr g))))), (r0, .inl (cI, 511, .inl R0)), (r1, .inl (cI, 511, .inl R1)), (r2, .inl (cI, 511, .inl R2)), (oa, .inl (cJ, 1, .inr (.inl (fun t9 => lI (FO t9)))))] sz) U U.heap)) (q_L_fold_2 dC dI xo ra rb sm hh ps pb k rs cI cJ cO lf rt rp so r0 r1 r2 g fA fB R0 R1 R2 FL FR FP oa FO (va_A [(xo, .inr (2, [.int (nI k), .ref ra, .ref rb, .int (nI rs), .ref sm, .ref hh, .ref ps, .ref pb])), (hh, .inr (0, [.ref lf, .ref rt, .ref rp])), (lf, .inl (cJ, 512, .inr (.inl (fun t9 => lI (FL t9))))), (rt, .inl (cJ, 512, .inr (.inl (fun t9 => lI (FR t9))))), (rp, .inl (cJ, 256, .inr (.inl (fun t9 => lI (FP t9))))), (ra, .inl (cI, 256, .inl fA)), (rb, .inl (cI, 256, .inl fB)), (sm, .inr (1, [.ref so])), (so, .inl (cO, 3, .inr (.inr (.inr (.inr g))))), (r0, .inl (cI, 511, .inl R0)), (r1, .inl (cI, 511, .inl R1)), (r2, .inl (cI, 511, .inl R2)), (oa, .inl (cJ, 1, .inr (.inl (fun t9 => lI (FO t9)))))] sz)) 0 0 (va_A [(xo, .inr (2, [.int (nI k), .ref ra, .ref rb, .int (nI rs), .ref sm, .ref hh, .ref ps, .ref pb])), (hh, .inr (0, [.ref lf, .ref rt, .ref rp])), (lf, .inl (cJ, 512, .inr (.inl (fun t9 => lI (FL t9))))), (rt, .inl (cJ, 512, .inr (.inl (fun t9 => lI (FR t9))))), (rp, .inl (cJ, 256, .inr (.inl (fun t9 => lI (FP t9))))), (ra, .inl (cI, 256, .inl fA)), (rb, .inl (cI, 256, .inl fB)), (sm, .inr (1, [.ref so])), (so, .inl (cO, 3, .inr (.inr (.inr (.inr g))))), (r0, .inl (cI, 511, .inl R0)), (r1, .inl (cI, 511, .inl R1)), (r2, .inl (cI, 511, .inl R2)), (oa, .inl (cJ, 1, .inr (.inl (fun t9 => lI (FO t9)))))] sz) := by
  refine va_MetW (cc := cL_fold) (maxL := 4) (ret := (some .int)) (hh := [(0, 9, 12, 13)]) (by decide) rfl ?_
  intro p e s m args below meth c s₁ B hml hv
  obtain ⟨rfl, hsz, hP, hK, hD0, hM⟩ := hv
  have hx := B.exec
  have hb := B.bytes
  have hr := B.returns
  have hts := atoms_spec (ws := wsL_fold) B.pre
  have hown : s.vm.findClass RL = some m.cls := findClass_of_methodNamed B.named
  have hlocks := B.notSynchronized
  have htab := vx_table (x := yL_fold) B (hts (.codeWith yL_fold cL_fold 4 (some .int) [(0, 9, 12, 13)]) List.mem_cons_self)
  subst hsz
  have hD := hD0.self (sz := s.heap.size)
  generalize hAe : va_A [(xo, .inr (2, [.int (nI k), .ref ra, .ref rb, .int (nI rs), .ref sm, .ref hh, .ref ps, .ref pb])), (hh, .inr (0, [.ref lf, .ref rt, .ref rp])), (lf, .inl (cJ, 512, .inr (.inl (fun t9 => lI (FL t9))))), (rt, .inl (cJ, 512, .inr (.inl (fun t9 => lI (FR t9))))), (rp, .inl (cJ, 256, .inr (.inl (fun t9 => lI (FP t9))))), (ra, .inl (cI, 256, .inl fA)), (rb, .inl (cI, 256, .inl fB)), (sm, .inr (1, [.ref so])), (so, .inl (cO, 3, .inr (.inr (.inr (.inr g))))), (r0, .inl (cI, 511, .inl R0)), (r1, .inl (cI, 511, .inl R1)), (r2, .inl (cI, 511, .inl R2)), (oa, .inl (cJ, 1, .inr (.inl (fun t9 => lI (FO t9)))))] s.heap.size = A at hD hM ⊢
  have hA : ∀ q : Nat, s.heap.size ≤ q → A q := fun q h => by rw [← hAe]; exact Or.inr h
  have hS : va_S A s.heap s.heap [] := va_S.rf
  have hP : va_P (dC, dI) vwCl [(xo, .inr (2, [.int (nI k), .ref ra, .ref rb, .int (nI rs), .ref sm, .ref hh, .ref ps, .ref pb])), (hh, .inr (0, [.ref lf, .ref rt, .ref rp])), (lf, .inl (cJ, 512, .inr (.inl (fun t9 => lI (FL t9))))), (rt, .inl (cJ, 512, .inr (.inl (fun t9 => lI (FR t9))))), (rp, .inl (cJ, 256, .inr (.inl (fun t9 => lI (FP t9))))), (ra, .inl (cI, 256, .inl fA)), (rb, .inl (cI, 256, .inl fB)), (sm, .inr (1, [.ref so])), (so, .inl (cO, 3, .inr (.inr (.inr (.inr g))))), (r0, .inl (cI, 511, .inl R0)), (r1, .inl (cI, 511, .inl R1)), (r2, .inl (cI, 511, .inl R2)), (oa, .inl (cJ, 1, .inr (.inl (fun t9 => lI (FO t9)))))] s.heap := hP
  have hl := lv_entry (([.ref xo, .int (nI 2), .ref oa] : List Value)) (n := 4) (Nat.le_of_ble_eq_true rfl)
  rw [lg_entry_eq]
  generalize (lg_sl (([.ref xo, .int (nI 2), .ref oa] : List Value)) ++ List.replicate (4 - (lg_sl (([.ref xo, .int (nI 2), .ref oa] : List Value))).length) Slot.unset).toArray = ls at hl ⊢
  have hl : lv_has ls 4 [(0, .ref xo), (1, .int (nI 2)), (2, .ref oa)] := hl
  obtain ⟨H, hHe⟩ : ∃ H : Heap, H = s.heap := ⟨_, rfl⟩
  rw [← hHe] at hP
  have hS : va_S A s.heap H [] := by rw [hHe]; exact hS
  obtain ⟨locs, hlo⟩ : ∃ L : List Loc, L = [] := ⟨_, rfl⟩
  rw [← hlo] at hS ⊢
  rw [← hHe]
  have hcn := cnt_b (kd := 2) (k := k) (by omega) zk
  refine lv_aload_n hx hb dL_fold_0 rfl (lv_at hl 2 rfl) ?_
  refine lv_iconst (v := nI 0) hx hb dL_fold_1 (by decide) ?_
  refine lv_aload_n hx hb dL_fold_2 rfl (lv_at hl 0 rfl) ?_
  refine lv_iload_n hx hb dL_fold_3 rfl (lv_at hl 1 rfl) ?_
  have hPc := hP.sub (ws' := [(xo, .inr (2, [.int (nI k), .ref ra, .ref rb, .int (nI rs), .ref sm, .ref hh, .ref ps, .ref pb])), (hh, .inr (0, [.ref lf, .ref rt, .ref rp])), (lf, .inl (cJ, 512, .inr (.inl (fun t9 => lI (FL t9))))), (rt, .inl (cJ, 512, .inr (.inl (fun t9 => lI (FR t9))))), (rp, .inl (cJ, 256, .inr (.inl (fun t9 => lI (FP t9))))), (ra, .inl (cI, 256, .inl fA)), (rb, .inl (cI, 256, .inl fB)), (sm, .inr (1, [.ref so])), (so, .inl (cO, 3, .inr (.inr (.inr (.inr g))))), (r0, .inl (cI, 511, .inl R0)), (r1, .inl (cI, 511, .inl R1)), (r2, .inl (cI, 511, .inl R2))]) [0, 1, 2, 3, 4, 5, 6, 7, 8, 9, 10, 11] rfl
  have hDc := hD.sub (ws' := [(xo, .inr (2, [.int (nI k), .ref ra, .ref rb, .int (nI rs), .ref sm, .ref hh, .ref ps, .ref pb])), (hh, .inr (0, [.ref lf, .ref rt, .ref rp])), (lf, .inl (cJ, 512, .inr (.inl (fun t9 => lI (FL t9))))), (rt, .inl (cJ, 512, .inr (.inl (fun t9 => lI (FR t9))))), (rp, .inl (cJ, 256, .inr (.inl (fun t9 => lI (FP t9))))), (ra, .inl (cI, 256, .inl fA)), (rb, .inl (cI, 256, .inl fB)), (sm, .inr (1, [.ref so])), (so, .inl (cO, 3, .inr (.inr (.inr (.inr g))))), (r0, .inl (cI, 511, .inl R0)), (r1, .inl (cI, 511, .inl R1)), (r2, .inl (cI, 511, .inl R2))]) [0, 1, 2, 3, 4, 5, 6, 7, 8, 9, 10, 11] (by decide) rfl
  have hKc := hK.sub (tys' := [(cI, .int), (cJ, .long), (cO, .array .int)]) [0, 1, 2] rfl
  have hFc := va_free (wc := [(xo, .inr (2, [.int (nI k), .ref ra, .ref rb, .int (nI rs), .ref sm, .ref hh, .ref ps, .ref pb])), (hh, .inr (0, [.ref lf, .ref rt, .ref rp])), (lf, .inl (cJ, 512, .inr (.inl (fun t9 => lI (FL t9))))), (rt, .inl (cJ, 512, .inr (.inl (fun t9 => lI (FR t9))))), (rp, .inl (cJ, 256, .inr (.inl (fun t9 => lI (FP t9))))), (ra, .inl (cI, 256, .inl fA)), (rb, .inl (cI, 256, .inl fB)), (sm, .inr (1, [.ref so])), (so, .inl (cO, 3, .inr (.inr (.inr (.inr g))))), (r0, .inl (cI, 511, .inl R0)), (r1, .inl (cI, 511, .inl R1)), (r2, .inl (cI, 511, .inl R2))]) hD hS hA [0, 1, 2, 3, 4, 5, 6, 7, 8, 9, 10, 11] rfl
  refine va_calli (va_runV (As := [.int (nI 2)]) (rest := [.int (nI 0), .ref oa]) ⟨hx, hb, hml, hown, hts⟩ (c_X3_fold_2 l dC dI xo ra rb sm hh ps pb k rs cI cJ cO lf rt rp so r0 r1 r2 g fA fB R0 R1 R2 FL FR FP H.size tP sa zk1 zk hg0 hg1 hg2) (cwV 1 hts gL_fold_X3_fold rfl rfl rfl (by decide +kernel) ⟨Nat.le_of_ble_eq_true rfl, Nat.le_of_ble_eq_true rfl⟩) ⟨fun a U g mk q => by obtain ⟨q0, q1, qP, qK, qD, qM⟩ := q; exact ⟨q0, q1, qP, va_K.moved (u := U) (U := U.calling g mk a) (Vm.Alike.refl U.vm) qK, qD, amb_same (U := U) (U' := U.calling g mk a) rfl rfl qM⟩, va_recv hKc hPc (ci := 2) (q0 := 0) rfl rfl, fun U hU hW => ⟨rfl, by rw [hU], by rw [hU]; exact hPc, va_K.moved hW.alike hKc, hDc.weaken (fun _ _ _ _ => trivial), amb_pass hM hS hFc hW hU⟩⟩ rfl rfl hl.1 rfl (lv_room (Nat.le_of_ble_eq_true rfl)) dL_fold_4 ⟨Nat.le_of_ble_eq_true rfl, Nat.le_of_ble_eq_true rfl⟩) hS (fun q _ h => hFc q h) hFc (fun r9 u9 t9 H1 locs ht hvm hw hB hz1 hk1 hS => ?_)
  obtain ⟨ua_1, ub_2, uc_3⟩ := u9
  obtain ⟨hP1, hD1⟩ := hB
  dsimp only at hP1 hD1
  rw [ht] at hP1
  try dsimp only at hw
  obtain ⟨hP, hD⟩ := va_join (wr := [(oa, .inl (cJ, 1, .inr (.inl (fun t9 => lI (FO t9)))))]) (w1 := [(xo, .inr (2, [.int (nI k), .ref ra, .ref rb, .int (nI (cntK 2 k)), .ref sm, .ref hh, .ref ps, .ref pb])), (hh, .inr (0, [.ref lf, .ref rt, .ref rp])), (lf, .inl (cJ, 512, .inr (.inl (fun t9 => lI ((ua_1 3) t9))))), (rt, .inl (cJ, 512, .inr (.inl (fun t9 => lI ((ub_2 3) t9))))), (rp, .inl (cJ, 256, .inr (.inl (fun t9 => lI ((uc_3 3) t9))))), (ra, .inl (cI, 256, .inl fA)), (rb, .inl (cI, 256, .inl fB)), (sm, .inr (1, [.ref so])), (so, .inl (cO, 3, .inr (.inr (.inr (.inr g))))), (r0, .inl (cI, 511, .inl (stR R0 (fdq 2 fA fB (ua_1 0) (ub_2 0) (uc_3 0) k 998244353) (cntK 2 k)))), (r1, .inl (cI, 511, .inl (stR R1 (fdq 2 fA fB (ua_1 1) (ub_2 1) (uc_3 1) k 167772161) (cntK 2 k)))), (r2, .inl (cI, 511, .inl (stR R2 (fdq 2 fA fB (ua_1 2) (ub_2 2) (uc_3 2) k 469762049) (cntK 2 k))))]) hP hD [0, 1, 2, 3, 4, 5, 6, 7, 8, 9, 10, 11] [12] rfl rfl (by decide) (by decide) hk1 hFc hP1 hD1
  generalize H1 = H at hP hS ⊢
  have hP : va_P (dC, dI) vwCl [(oa, .inl (cJ, 1, .inr (.inl (fun t9 => lI (FO t9))))), (xo, .inr (2, [.int (nI k), .ref ra, .ref rb, .int (nI (cntK 2 k)), .ref sm, .ref hh, .ref ps, .ref pb])), (hh, .inr (0, [.ref lf, .ref rt, .ref rp])), (lf, .inl (cJ, 512, .inr (.inl (fun t9 => lI ((ua_1 3) t9))))), (rt, .inl (cJ, 512, .inr (.inl (fun t9 => lI ((ub_2 3) t9))))), (rp, .inl (cJ, 256, .inr (.inl (fun t9 => lI ((uc_3 3) t9))))), (ra, .inl (cI, 256, .inl fA)), (rb, .inl (cI, 256, .inl fB)), (sm, .inr (1, [.ref so])), (so, .inl (cO, 3, .inr (.inr (.inr (.inr g))))), (r0, .inl (cI, 511, .inl (stR R0 (fdq 2 fA fB (ua_1 0) (ub_2 0) (uc_3 0) k 998244353) (cntK 2 k)))), (r1, .inl (cI, 511, .inl (stR R1 (fdq 2 fA fB (ua_1 1) (ub_2 1) (uc_3 1) k 167772161) (cntK 2 k)))), (r2, .inl (cI, 511, .inl (stR R2 (fdq 2 fA fB (ua_1 2) (ub_2 2) (uc_3 2) k 469762049) (cntK 2 k))))] H := hP
  have hD : va_D A [(oa, .inl (cJ, 1, .inr (.inl (fun t9 => lI (FO t9))))), (xo, .inr (2, [.int (nI k), .ref ra, .ref rb, .int (nI (cntK 2 k)), .ref sm, .ref hh, .ref ps, .ref pb])), (hh, .inr (0, [.ref lf, .ref rt, .ref rp])), (lf, .inl (cJ, 512, .inr (.inl (fun t9 => lI ((ua_1 3) t9))))), (rt, .inl (cJ, 512, .inr (.inl (fun t9 => lI ((ub_2 3) t9))))), (rp, .inl (cJ, 256, .inr (.inl (fun t9 => lI ((uc_3 3) t9))))), (ra, .inl (cI, 256, .inl fA)), (rb, .inl (cI, 256, .inl fB)), (sm, .inr (1, [.ref so])), (so, .inl (cO, 3, .inr (.inr (.inr (.inr g))))), (r0, .inl (cI, 511, .inl (stR R0 (fdq 2 fA fB (ua_1 0) (ub_2 0) (uc_3 0) k 998244353) (cntK 2 k)))), (r1, .inl (cI, 511, .inl (stR R1 (fdq 2 fA fB (ua_1 1) (ub_2 1) (uc_3 1) k 167772161) (cntK 2 k)))), (r2, .inl (cI, 511, .inl (stR R2 (fdq 2 fA fB (ua_1 2) (ub_2 2) (uc_3 2) k 469762049) (cntK 2 k))))] := hD
  clear hPc hDc hKc hFc hP1 hD1 hk1 hz1 hvm ht
  subst hw
  refine lv_i2l (v := lI ((cntK 2 k : Nat) : Int)) hx hb dL_fold_7 (nI_lI (by omega)) ?_
  refine va_last hx hb hK hP hD hS 0 1 rfl rfl (vp_in_nI (by omega) (by omega)) dL_fold_8 (fun H locs hP hD hS => ?_)
  rw [nI_clamp (show 0 < 2 ^ 31 by omega)] at hP hD
  rw [upI_l] at hP hD
  have hP : va_P (dC, dI) vwCl [(oa, .inl (cJ, 1, .inr (.inl (fun t9 => lI ((upI FO 0 ((cntK 2 k : Nat) : Int)) t9))))), (xo, .inr (2, [.int (nI k), .ref ra, .ref rb, .int (nI (cntK 2 k)), .ref sm, .ref hh, .ref ps, .ref pb])), (hh, .inr (0, [.ref lf, .ref rt, .ref rp])), (lf, .inl (cJ, 512, .inr (.inl (fun t9 => lI ((ua_1 3) t9))))), (rt, .inl (cJ, 512, .inr (.inl (fun t9 => lI ((ub_2 3) t9))))), (rp, .inl (cJ, 256, .inr (.inl (fun t9 => lI ((uc_3 3) t9))))), (ra, .inl (cI, 256, .inl fA)), (rb, .inl (cI, 256, .inl fB)), (sm, .inr (1, [.ref so])), (so, .inl (cO, 3, .inr (.inr (.inr (.inr g))))), (r0, .inl (cI, 511, .inl (stR R0 (fdq 2 fA fB (ua_1 0) (ub_2 0) (uc_3 0) k 998244353) (cntK 2 k)))), (r1, .inl (cI, 511, .inl (stR R1 (fdq 2 fA fB (ua_1 1) (ub_2 1) (uc_3 1) k 167772161) (cntK 2 k)))), (r2, .inl (cI, 511, .inl (stR R2 (fdq 2 fA fB (ua_1 2) (ub_2 2) (uc_3 2) k 469762049) (cntK 2 k))))] H := hP
  have hD : va_D A [(oa, .inl (cJ, 1, .inr (.inl (fun t9 => lI ((upI FO 0 ((cntK 2 k : Nat) : Int)) t9))))), (xo, .inr (2, [.int (nI k), .ref ra, .ref rb, .int (nI (cntK 2 k)), .ref sm, .ref hh, .ref ps, .ref pb])), (hh, .inr (0, [.ref lf, .ref rt, .ref rp])), (lf, .inl (cJ, 512, .inr (.inl (fun t9 => lI ((ua_1 3) t9))))), (rt, .inl (cJ, 512, .inr (.inl (fun t9 => lI ((ub_2 3) t9))))), (rp, .inl (cJ, 256, .inr (.inl (fun t9 => lI ((uc_3 3) t9))))), (ra, .inl (cI, 256, .inl fA)), (rb, .inl (cI, 256, .inl fB)), (sm, .inr (1, [.ref so])), (so, .inl (cO, 3, .inr (.inr (.inr (.inr g))))), (r0, .inl (cI, 511, .inl (stR R0 (fdq 2 fA fB (ua_1 0) (ub_2 0) (uc_3 0) k 998244353) (cntK 2 k)))), (r1, .inl (cI, 511, .inl (stR R1 (fdq 2 fA fB (ua_1 1) (ub_2 1) (uc_3 1) k 167772161) (cntK 2 k)))), (r2, .inl (cI, 511, .inl (stR R2 (fdq 2 fA fB (ua_1 2) (ub_2 2) (uc_3 2) k 469762049) (cntK 2 k))))] := hD
  refine lv_goto (tgt := 15) hx hb dL_fold_9 (by decide) ?_
  refine lv_iconst (v := nI 0) hx hb dL_fold_15 (by decide) ?_
  have hP9 : va_P (dC, dI) vwCl [(xo, .inr (2, [.int (nI k), .ref ra, .ref rb, .int (nI (cntK 2 k)), .ref sm, .ref hh, .ref ps, .ref pb])), (hh, .inr (0, [.ref lf, .ref rt, .ref rp])), (lf, .inl (cJ, 512, .inr (.inl (fun t9 => lI ((ua_1 3) t9))))), (rt, .inl (cJ, 512, .inr (.inl (fun t9 => lI ((ub_2 3) t9))))), (rp, .inl (cJ, 256, .inr (.inl (fun t9 => lI ((uc_3 3) t9))))), (ra, .inl (cI, 256, .inl fA)), (rb, .inl (cI, 256, .inl fB)), (sm, .inr (1, [.ref so])), (so, .inl (cO, 3, .inr (.inr (.inr (.inr g))))), (r0, .inl (cI, 511, .inl (stR R0 (fdq 2 fA fB (ua_1 0) (ub_2 0) (uc_3 0) k 998244353) (cntK 2 k)))), (r1, .inl (cI, 511, .inl (stR R1 (fdq 2 fA fB (ua_1 1) (ub_2 1) (uc_3 1) k 167772161) (cntK 2 k)))), (r2, .inl (cI, 511, .inl (stR R2 (fdq 2 fA fB (ua_1 2) (ub_2 2) (uc_3 2) k 469762049) (cntK 2 k)))), (oa, .inl (cJ, 1, .inr (.inl (fun t9 => lI ((upI FO 0 ((cntK 2 k : Nat) : Int)) t9)))))] H := hP.sub [1, 2, 3, 4, 5, 6, 7, 8, 9, 10, 11, 12, 0] rfl
  have hD9 : va_D A [(xo, .inr (2, [.int (nI k), .ref ra, .ref rb, .int (nI (cntK 2 k)), .ref sm, .ref hh, .ref ps, .ref pb])), (hh, .inr (0, [.ref lf, .ref rt, .ref rp])), (lf, .inl (cJ, 512, .inr (.inl (fun t9 => lI ((ua_1 3) t9))))), (rt, .inl (cJ, 512, .inr (.inl (fun t9 => lI ((ub_2 3) t9))))), (rp, .inl (cJ, 256, .inr (.inl (fun t9 => lI ((uc_3 3) t9))))), (ra, .inl (cI, 256, .inl fA)), (rb, .inl (cI, 256, .inl fB)), (sm, .inr (1, [.ref so])), (so, .inl (cO, 3, .inr (.inr (.inr (.inr g))))), (r0, .inl (cI, 511, .inl (stR R0 (fdq 2 fA fB (ua_1 0) (ub_2 0) (uc_3 0) k 998244353) (cntK 2 k)))), (r1, .inl (cI, 511, .inl (stR R1 (fdq 2 fA fB (ua_1 1) (ub_2 1) (uc_3 1) k 167772161) (cntK 2 k)))), (r2, .inl (cI, 511, .inl (stR R2 (fdq 2 fA fB (ua_1 2) (ub_2 2) (uc_3 2) k 469762049) (cntK 2 k)))), (oa, .inl (cJ, 1, .inr (.inl (fun t9 => lI ((upI FO 0 ((cntK 2 k : Nat) : Int)) t9)))))] := hD.sub [1, 2, 3, 4, 5, 6, 7, 8, 9, 10, 11, 12, 0] (by decide) rfl
  exact W.iret (v := nI 0) hx hb hr (fun tq9 ht hW => ⟨⟨nI 0, (ua_1, ub_2, uc_3), rfl, rfl, by rw [ht]; exact hP9, hD9⟩, hS.F ht⟩) hS.2.2 dL_fold_16

abbrev q_L_fold_bad (dC : Nat → ClassId) (dI : Nat → Nat → Nat) (xo ra rb sm hh ps pb k rs : Nat) (i : Int32) (oa : Nat) (A : Nat → Prop) : Array Value → State → Outcome → State → Prop := va_Qi (fun (r : Int32) (u : Unit) => r = nI 1) (fun u t => va_P (dC, dI) vwCl [(xo, .inr (2, [.int (nI k), .ref ra, .ref rb, .int (nI rs), .ref sm, .ref hh, .ref ps, .ref pb]))] t.heap ∧ va_D A [(xo, .inr (2, [.int (nI k), .ref ra, .ref rb, .int (nI rs), .ref sm, .ref hh, .ref ps, .ref pb]))]) A
set_option maxHeartbeats 4000000 in
set_option maxRecDepth 100000 in
theorem c_L_fold_bad (l : Launch) (dC : Nat → ClassId) (dI : Nat → Nat → Nat) (xo ra rb sm hh ps pb k rs : Nat) (i : Int32) (oa : Nat) (sz : Nat) (tP : Nat) (sa : Nat → Nat) (hl9 : l.stackTraces = false) (hbad : i < 0 ∨ nI 2 < i) : Met l yL_fold wsL_fold ({ frames := 7, cells := 1, slots := 6, locals := 103 }) (va_Pc [.ref xo, .int i, .ref oa] (fun U => U.heap.size = sz ∧ va_P (dC, dI) vwCl [(xo, .inr (2, [.int (nI k), .ref ra, .ref rb, .int (nI rs), .ref sm, .ref hh, .ref ps, .ref pb]))] U.heap ∧ va_K (dC, dI) vwCl [] U ∧ va_D (fun _ => True) [(xo, .inr (2, [.int (nI k), .ref ra, .ref rb, .int (nI rs), .ref sm, .ref hh, .ref ps, .ref pb]))] ∧ amb tP sa (va_A [(xo, .inr (2, [.int (nI k), .ref ra, .ref rb, .int (nI rs), .ref sm, .ref hh, .ref ps, .ref pb]))] sz) U U.heap)) (q_L_fold_bad dC dI xo ra rb sm hh ps pb k rs i oa (va_A [(xo, .inr (2, [.int (nI k), .ref ra, .ref rb, .int (nI rs), .ref sm, .ref hh, .ref ps, .ref pb]))] sz)) 1 6 (va_A [(xo, .inr (2, [.int (nI k), .ref ra, .ref rb, .int (nI rs), .ref sm, .ref hh, .ref ps, .ref pb]))] sz) := by
  refine va_MetW (cc := cL_fold) (maxL := 4) (ret := (some .int)) (hh := [(0, 9, 12, 13)]) (by decide) rfl ?_
  intro p e s m args below meth c s₁ B hml hv
  obtain ⟨rfl, hsz, hP, hK, hD0, hM⟩ := hv
  have hx := B.exec
  have hb := B.bytes
  have hr := B.returns
  have hts := atoms_spec (ws := wsL_fold) B.pre
  have hown : s.vm.findClass RL = some m.cls := findClass_of_methodNamed B.named
  have hlocks := B.notSynchronized
  have htab := vx_table (x := yL_fold) B (hts (.codeWith yL_fold cL_fold 4 (some .int) [(0, 9, 12, 13)]) List.mem_cons_self)
  subst hsz
  have hD := hD0.self (sz := s.heap.size)
  generalize hAe : va_A [(xo, .inr (2, [.int (nI k), .ref ra, .ref rb, .int (nI rs), .ref sm, .ref hh, .ref ps, .ref pb]))] s.heap.size = A at hD hM ⊢
  have hA : ∀ q : Nat, s.heap.size ≤ q → A q := fun q h => by rw [← hAe]; exact Or.inr h
  have hS : va_S A s.heap s.heap [] := va_S.rf
  have hP : va_P (dC, dI) vwCl [(xo, .inr (2, [.int (nI k), .ref ra, .ref rb, .int (nI rs), .ref sm, .ref hh, .ref ps, .ref pb]))] s.heap := hP
  have hl := lv_entry (([.ref xo, .int i, .ref oa] : List Value)) (n := 4) (Nat.le_of_ble_eq_true rfl)
  rw [lg_entry_eq]
  generalize (lg_sl (([.ref xo, .int i, .ref oa] : List Value)) ++ List.replicate (4 - (lg_sl (([.ref xo, .int i, .ref oa] : List Value))).length) Slot.unset).toArray = ls at hl ⊢
  have hl : lv_has ls 4 [(0, .ref xo), (1, .int i), (2, .ref oa)] := hl
  obtain ⟨H, hHe⟩ : ∃ H : Heap, H = s.heap := ⟨_, rfl⟩
  rw [← hHe] at hP
  have hS : va_S A s.heap H [] := by rw [hHe]; exact hS
  obtain ⟨locs, hlo⟩ : ∃ L : List Loc, L = [] := ⟨_, rfl⟩
  rw [← hlo] at hS ⊢
  rw [← hHe]
  refine lv_aload_n hx hb dL_fold_0 rfl (lv_at hl 2 rfl) ?_
  refine lv_iconst (v := nI 0) hx hb dL_fold_1 (by decide) ?_
  refine lv_aload_n hx hb dL_fold_2 rfl (lv_at hl 0 rfl) ?_
  refine lv_iload_n hx hb dL_fold_3 rfl (lv_at hl 1 rfl) ?_
  have hPc := hP.sub (ws' := [(xo, .inr (2, [.int (nI k), .ref ra, .ref rb, .int (nI rs), .ref sm, .ref hh, .ref ps, .ref pb]))]) [0] rfl
  have hDc := hD.sub (ws' := [(xo, .inr (2, [.int (nI k), .ref ra, .ref rb, .int (nI rs), .ref sm, .ref hh, .ref ps, .ref pb]))]) [0] (by decide) rfl
  have hKc := hK.sub (tys' := []) [] rfl
  have hFc := va_free (wc := [(xo, .inr (2, [.int (nI k), .ref ra, .ref rb, .int (nI rs), .ref sm, .ref hh, .ref ps, .ref pb]))]) hD hS hA [0] rfl
  refine vx_calli (vx_runV (As := [.int i]) (rest := [.int (nI 0), .ref oa]) ⟨hx, hb, hml, hown, hts⟩ (c_X3_fold_bad l dC dI xo ra rb sm hh ps pb k rs i H.size hl9 tP sa hbad) (cwV 1 hts gL_fold_X3_fold rfl rfl rfl (by decide +kernel) ⟨Nat.le_of_ble_eq_true rfl, Nat.le_of_ble_eq_true rfl⟩) ⟨fun a U g mk q => by obtain ⟨q0, q1, qP, qK, qD, qM⟩ := q; exact ⟨q0, q1, qP, va_K.moved (u := U) (U := U.calling g mk a) (Vm.Alike.refl U.vm) qK, qD, amb_same (U := U) (U' := U.calling g mk a) rfl rfl qM⟩, va_recv hKc hPc (ci := 2) (q0 := 0) rfl rfl, fun U hU hW => ⟨rfl, by rw [hU], by rw [hU]; exact hPc, va_K.moved hW.alike hKc, hDc.weaken (fun _ _ _ _ => trivial), amb_pass hM hS hFc hW hU⟩⟩ rfl rfl hl.1 rfl (lv_room (Nat.le_of_ble_eq_true rfl)) dL_fold_4 ⟨Nat.le_of_ble_eq_true rfl, Nat.le_of_ble_eq_true rfl⟩) hS (fun q _ h => hFc q h) hFc (fun q _ h => hFc q h) (fun E9 ce9 q9 u9 t9 H1 locs ht hvm hw hB hz1 hk1 hS hce hcv hcl => ?_) (fun r9 u9 t9 H1 locs ht hvm hw hB hz1 hk1 hS => ?_)
  · obtain ⟨hxp, hP1, hD1⟩ := hB
    rw [ht] at hP1
    obtain ⟨hP, hD⟩ := va_join (wr := []) (w1 := [(xo, .inr (2, [.int (nI k), .ref ra, .ref rb, .int (nI rs), .ref sm, .ref hh, .ref ps, .ref pb]))]) hP hD [0] [] rfl rfl (by decide) (by decide) hk1 hFc hP1 hD1
    subst hxp
    refine vx_catch (own := RL) (name := "java/lang/IllegalArgumentException") hown [] ⟨0, 9, 12, 13⟩ [] (htab.trans rfl) (fun z hz => (List.not_mem_nil hz).elim) (by decide) (by decide) (hts (.classLink RL 13 "java/lang/IllegalArgumentException") (by decide +kernel)) (va_tabs rfl rfl (hM.2.2.1 (.castable "java/lang/IllegalArgumentException" "java/lang/IllegalArgumentException") (by decide +kernel))) hce hcv hcl ?_
    clear hce
    generalize H1 = H at hP hS ⊢
    have hP : va_P (dC, dI) vwCl [(xo, .inr (2, [.int (nI k), .ref ra, .ref rb, .int (nI rs), .ref sm, .ref hh, .ref ps, .ref pb]))] H := hP
    have hD : va_D A [(xo, .inr (2, [.int (nI k), .ref ra, .ref rb, .int (nI rs), .ref sm, .ref hh, .ref ps, .ref pb]))] := hD
    refine W.widen (k := 1) (n := 6) (by omega) (by omega) ?_
    refine W.eq (g2 := F0 m 12 ls [.ref q9]) rfl ?_
    refine lv_astore_n (lv' := [(3, .ref q9), (0, .ref xo), (1, .int i), (2, .ref oa)]) hx hb dL_fold_12 rfl hl (by decide) rfl (fun ls hl => ?_)
    refine lv_iconst (v := nI 1) hx hb dL_fold_13 (by decide) ?_
    have hP9 : va_P (dC, dI) vwCl [(xo, .inr (2, [.int (nI k), .ref ra, .ref rb, .int (nI rs), .ref sm, .ref hh, .ref ps, .ref pb]))] H := hP.sub [0] rfl
    have hD9 : va_D A [(xo, .inr (2, [.int (nI k), .ref ra, .ref rb, .int (nI rs), .ref sm, .ref hh, .ref ps, .ref pb]))] := hD.sub [0] (by decide) rfl
    exact W.iret (v := nI 1) hx hb hr (fun tq9 ht hW => ⟨⟨nI 1, (), rfl, rfl, by rw [ht]; exact hP9, hD9⟩, hS.F ht⟩) hS.2.2 dL_fold_14
  exact hw.elim

abbrev q_L_power_ok (dC : Nat → ClassId) (dI : Nat → Nat → Nat) (xo ra rb sm hh ps pb k rs : Nat) (cI cJ cO : ClassId) (lf rt rp po p0 p1 p2 : Nat) (g9 : Nat → Option Nat) (fA fp S0 S1 S2 : Nat → Int32) (FL FR FP : Nat → Int) (x : Nat) (oa : Nat) (FO : Nat → Int) (A : Nat → Prop) : Array Value → State → Outcome → State → Prop := va_Qi (fun (r : Int32) (u : (Nat → Int32) × ((Nat → Int) × (Nat → Int) × (Nat → Int)) × ((Nat → Int32) × (Nat → Int32) × (Nat → Int32)) × (Nat → Int32)) => r = nI 0 ∧ ∃ tp, 2 ^ tp ≤ x ∧ x < 2 ^ (tp + 1) ∧ tp ≤ 9 ∧ ∀ j, j < 2 ^ k → u.1 j = pwT fA (2 ^ k) x tp tp j) (fun u t => va_P (dC, dI) vwCl [(xo, .inr (2, [.int (nI k), .ref ra, .ref rb, .int (nI rs), .ref sm, .ref hh, .ref ps, .ref pb])), (hh, .inr (0, [.ref lf, .ref rt, .ref rp])), (lf, .inl (cJ, 512, .inr (.inl (fun t9 => lI (u.2.1.1 t9))))), (rt, .inl (cJ, 512, .inr (.inl (fun t9 => lI (u.2.1.2.1 t9))))), (rp, .inl (cJ, 256, .inr (.inl (fun t9 => lI (u.2.1.2.2 t9))))), (ra, .inl (cI, 256, .inl u.1)), (pb, .inl (cI, 256, .inl u.2.2.2)), (ps, .inr (1, [.ref po])), (po, .inl (cO, 3, .inr (.inr (.inr (.inr g9))))), (p0, .inl (cI, 256, .inl u.2.2.1.1)), (p1, .inl (cI, 256, .inl u.2.2.1.2.1)), (p2, .inl (cI, 256, .inl u.2.2.1.2.2)), (oa, .inl (cJ, 1, .inr (.inl (fun t9 => lI ((upI FO 0 ((u.1 0).toInt)) t9)))))] t.heap ∧ va_D A [(xo, .inr (2, [.int (nI k), .ref ra, .ref rb, .int (nI rs), .ref sm, .ref hh, .ref ps, .ref pb])), (hh, .inr (0, [.ref lf, .ref rt, .ref rp])), (lf, .inl (cJ, 512, .inr (.inl (fun t9 => lI (u.2.1.1 t9))))), (rt, .inl (cJ, 512, .inr (.inl (fun t9 => lI (u.2.1.2.1 t9))))), (rp, .inl (cJ, 256, .inr (.inl (fun t9 => lI (u.2.1.2.2 t9))))), (ra, .inl (cI, 256, .inl u.1)), (pb, .inl (cI, 256, .inl u.2.2.2)), (ps, .inr (1, [.ref po])), (po, .inl (cO, 3, .inr (.inr (.inr (.inr g9))))), (p0, .inl (cI, 256, .inl u.2.2.1.1)), (p1, .inl (cI, 256, .inl u.2.2.1.2.1)), (p2, .inl (cI, 256, .inl u.2.2.1.2.2)), (oa, .inl (cJ, 1, .inr (.inl (fun t9 => lI ((upI FO 0 ((u.1 0).toInt)) t9)))))]) A
set_option maxHeartbeats 4000000 in
set_option maxRecDepth 100000 in
theorem c_L_power_ok (l : Launch) (dC : Nat → ClassId) (dI : Nat → Nat → Nat) (xo ra rb sm hh ps pb k rs : Nat) (cI cJ cO : ClassId) (lf rt rp po p0 p1 p2 : Nat) (g9 : Nat → Option Nat) (fA fp S0 S1 S2 : Nat → Int32) (FL FR FP : Nat → Int) (x : Nat) (oa : Nat) (FO : Nat → Int) (sz : Nat) (tP : Nat) (sa : Nat → Nat) (zk1 : 1 ≤ k) (zk : k ≤ 8) (hq0 : g9 0 = some p0) (hq1 : g9 1 = some p1) (hq2 : g9 2 = some p2) (zx1 : 1 ≤ x) (zx2 : x ≤ 1000) : Met l yL_power wsL_power ({ frames := 7, cells := 0, slots := 0, locals := 176 }) (va_Pc [.ref xo, .int (nI x), .ref oa] (fun U => U.heap.size = sz ∧ va_P (dC, dI) vwCl [(xo, .inr (2, [.int (nI k), .ref ra, .ref rb, .int (nI rs), .ref sm, .ref hh, .ref ps, .ref pb])), (hh, .inr (0, [.ref lf, .ref rt, .ref rp])), (lf, .inl (cJ, 512, .inr (.inl (fun t9 => lI (FL t9))))), (rt, .inl (cJ, 512, .inr (.inl (fun t9 => lI (FR t9))))), (rp, .inl (cJ, 256, .inr (.inl (fun t9 => lI (FP t9))))), (ra, .inl (cI, 256, .inl fA)), (pb, .inl (cI, 256, .inl fp)), (ps, .inr (1, [.ref po])), (po, .inl (cO, 3, .inr (.inr (.inr (.inr g9))))), (p0, .inl (cI, 256, .inl S0)), (p1, .inl (cI, 256, .inl S1)), (p2, .inl (cI, 256, .inl S2)), (oa, .inl (cJ, 1, .inr (.inl (fun t9 => lI (FO t9)))))] U.heap ∧ va_K (dC, dI) vwCl [(cI, .int), (cJ, .long), (cO, .array .int)] U ∧ va_D (fun _ => True) [(xo, .inr (2, [.int (nI k), .ref ra, .ref rb, .int (nI rs), .ref sm, .ref hh, .ref ps, .ref pb])), (hh, .inr (0, [.ref lf, .ref rt, .ref rp])), (lf, .inl (cJ, 512, .inr (.inl (fun t9 => lI (FL t9))))), (rt, .inl (cJ, 512, .inr (.inl (fun t9 => lI (FR t9))))), (rp, .inl (cJ, 256, .inr (.inl (fun t9 => lI (FP t9))))), (ra, .inl (cI, 256, .inl fA)), (pb, .inl (cI, 256, .inl fp)), (ps, .inr (1, [.ref po])), (po, .inl (cO, 3, .inr (.inr (.inr (.inr g9))))), (p0, .inl (cI, 256, .inl S0)), (p1, .inl (cI, 256, .inl S1)), (p2, .inl (cI, 256, .inl S2)), (oa, .inl (cJ, 1, .inr (.inl (fun t9 => lI (FO t9)))))] ∧ amb tP sa (va_A [(xo, .inr (2, [.int (nI k), .ref ra, .ref rb, .int (nI rs), .ref sm, .ref hh, .ref ps, .ref pb])), (hh, .inr (0, [.ref lf, .ref rt, .ref rp])), (lf, .inl (cJ, 512, .inr (.inl (fun t9 => lI (FL t9))))), (rt, .inl (cJ, 512, .inr (.inl (fun t9 => lI (FR t9))))), (rp, .inl (cJ, 256, .inr (.inl (fun t9 => lI (FP t9))))), (ra, .inl (cI, 256, .inl fA)), (pb, .inl (cI, 256, .inl fp)), (ps, .inr (1, [.ref po])), (po, .inl (cO, 3, .inr (.inr (.inr (.inr g9))))), (p0, .inl (cI, 256, .inl S0)), (p1, .inl (cI, 256, .inl S1)), (p2, .inl (cI, 256, .inl S2)), (oa, .inl (cJ, 1, .inr (.inl (fun t9 => lI (FO t9)))))] sz) U U.heap)) (q_L_power_ok dC dI xo ra rb sm hh ps pb k rs cI cJ cO lf rt rp po p0 p1 p2 g9 fA fp S0 S1 S2 FL FR FP x oa FO (va_A [(xo, .inr (2, [.int (nI k), .ref ra, .ref rb, .int (nI rs), .ref sm, .ref hh, .ref ps, .ref pb])), (hh, .inr (0, [.ref lf, .ref rt, .ref rp])), (lf, .inl (cJ, 512, .inr (.inl (fun t9 => lI (FL t9))))), (rt, .inl (cJ, 512, .inr (.inl (fun t9 => lI (FR t9))))), (rp, .inl (cJ, 256, .inr (.inl (fun t9 => lI (FP t9))))), (ra, .inl (cI, 256, .inl fA)), (pb, .inl (cI, 256, .inl fp)), (ps, .inr (1, [.ref po])), (po, .inl (cO, 3, .inr (.inr (.inr (.inr g9))))), (p0, .inl (cI, 256, .inl S0)), (p1, .inl (cI, 256, .inl S1)), (p2, .inl (cI, 256, .inl S2)), (oa, .inl (cJ, 1, .inr (.inl (fun t9 => lI (FO t9)))))] sz)) 0 0 (va_A [(xo, .inr (2, [.int (nI k), .ref ra, .ref rb, .int (nI rs), .ref sm, .ref hh, .ref ps, .ref pb])), (hh, .inr (0, [.ref lf, .ref rt, .ref rp])), (lf, .inl (cJ, 512, .inr (.inl (fun t9 => lI (FL t9))))), (rt, .inl (cJ, 512, .inr (.inl (fun t9 => lI (FR t9))))), (rp, .inl (cJ, 256, .inr (.inl (fun t9 => lI (FP t9))))), (ra, .inl (cI, 256, .inl fA)), (pb, .inl (cI, 256, .inl fp)), (ps, .inr (1, [.ref po])), (po, .inl (cO, 3, .inr (.inr (.inr (.inr g9))))), (p0, .inl (cI, 256, .inl S0)), (p1, .inl (cI, 256, .inl S1)), (p2, .inl (cI, 256, .inl S2)), (oa, .inl (cJ, 1, .inr (.inl (fun t9 => lI (FO t9)))))] sz) := by
  refine va_MetW (cc := cL_power) (maxL := 4) (ret := (some .int)) (hh := [(0, 9, 12, 13)]) (by decide) rfl ?_
  intro p e s m args below meth c s₁ B hml hv
  obtain ⟨rfl, hsz, hP, hK, hD0, hM⟩ := hv
  have hx := B.exec
  have hb := B.bytes
  have hr := B.returns
  have hts := atoms_spec (ws := wsL_power) B.pre
  have hown : s.vm.findClass RL = some m.cls := findClass_of_methodNamed B.named
  have hlocks := B.notSynchronized
  have htab := vx_table (x := yL_power) B (hts (.codeWith yL_power cL_power 4 (some .int) [(0, 9, 12, 13)]) List.mem_cons_self)
  subst hsz
  have hD := hD0.self (sz := s.heap.size)
  generalize hAe : va_A [(xo, .inr (2, [.int (nI k), .ref ra, .ref rb, .int (nI rs), .ref sm, .ref hh, .ref ps, .ref pb])), (hh, .inr (0, [.ref lf, .ref rt, .ref rp])), (lf, .inl (cJ, 512, .inr (.inl (fun t9 => lI (FL t9))))), (rt, .inl (cJ, 512, .inr (.inl (fun t9 => lI (FR t9))))), (rp, .inl (cJ, 256, .inr (.inl (fun t9 => lI (FP t9))))), (ra, .inl (cI, 256, .inl fA)), (pb, .inl (cI, 256, .inl fp)), (ps, .inr (1, [.ref po])), (po, .inl (cO, 3, .inr (.inr (.inr (.inr g9))))), (p0, .inl (cI, 256, .inl S0)), (p1, .inl (cI, 256, .inl S1)), (p2, .inl (cI, 256, .inl S2)), (oa, .inl (cJ, 1, .inr (.inl (fun t9 => lI (FO t9)))))] s.heap.size = A at hD hM ⊢
  have hA : ∀ q : Nat, s.heap.size ≤ q → A q := fun q h => by rw [← hAe]; exact Or.inr h
  have hS : va_S A s.heap s.heap [] := va_S.rf
  have hP : va_P (dC, dI) vwCl [(xo, .inr (2, [.int (nI k), .ref ra, .ref rb, .int (nI rs), .ref sm, .ref hh, .ref ps, .ref pb])), (hh, .inr (0, [.ref lf, .ref rt, .ref rp])), (lf, .inl (cJ, 512, .inr (.inl (fun t9 => lI (FL t9))))), (rt, .inl (cJ, 512, .inr (.inl (fun t9 => lI (FR t9))))), (rp, .inl (cJ, 256, .inr (.inl (fun t9 => lI (FP t9))))), (ra, .inl (cI, 256, .inl fA)), (pb, .inl (cI, 256, .inl fp)), (ps, .inr (1, [.ref po])), (po, .inl (cO, 3, .inr (.inr (.inr (.inr g9))))), (p0, .inl (cI, 256, .inl S0)), (p1, .inl (cI, 256, .inl S1)), (p2, .inl (cI, 256, .inl S2)), (oa, .inl (cJ, 1, .inr (.inl (fun t9 => lI (FO t9)))))] s.heap := hP
  have hl := lv_entry (([.ref xo, .int (nI x), .ref oa] : List Value)) (n := 4) (Nat.le_of_ble_eq_true rfl)
  rw [lg_entry_eq]
  generalize (lg_sl (([.ref xo, .int (nI x), .ref oa] : List Value)) ++ List.replicate (4 - (lg_sl (([.ref xo, .int (nI x), .ref oa] : List Value))).length) Slot.unset).toArray = ls at hl ⊢
  have hl : lv_has ls 4 [(0, .ref xo), (1, .int (nI x)), (2, .ref oa)] := hl
  obtain ⟨H, hHe⟩ : ∃ H : Heap, H = s.heap := ⟨_, rfl⟩
  rw [← hHe] at hP
  have hS : va_S A s.heap H [] := by rw [hHe]; exact hS
  obtain ⟨locs, hlo⟩ : ∃ L : List Loc, L = [] := ⟨_, rfl⟩
  rw [← hlo] at hS ⊢
  rw [← hHe]
  refine lv_aload_n hx hb dL_power_0 rfl (lv_at hl 2 rfl) ?_
  refine lv_iconst (v := nI 0) hx hb dL_power_1 (by decide) ?_
  refine lv_aload_n hx hb dL_power_2 rfl (lv_at hl 0 rfl) ?_
  refine lv_iload_n hx hb dL_power_3 rfl (lv_at hl 1 rfl) ?_
  have hPc := hP.sub (ws' := [(xo, .inr (2, [.int (nI k), .ref ra, .ref rb, .int (nI rs), .ref sm, .ref hh, .ref ps, .ref pb])), (hh, .inr (0, [.ref lf, .ref rt, .ref rp])), (lf, .inl (cJ, 512, .inr (.inl (fun t9 => lI (FL t9))))), (rt, .inl (cJ, 512, .inr (.inl (fun t9 => lI (FR t9))))), (rp, .inl (cJ, 256, .inr (.inl (fun t9 => lI (FP t9))))), (ra, .inl (cI, 256, .inl fA)), (pb, .inl (cI, 256, .inl fp)), (ps, .inr (1, [.ref po])), (po, .inl (cO, 3, .inr (.inr (.inr (.inr g9))))), (p0, .inl (cI, 256, .inl S0)), (p1, .inl (cI, 256, .inl S1)), (p2, .inl (cI, 256, .inl S2))]) [0, 1, 2, 3, 4, 5, 6, 7, 8, 9, 10, 11] rfl
  have hDc := hD.sub (ws' := [(xo, .inr (2, [.int (nI k), .ref ra, .ref rb, .int (nI rs), .ref sm, .ref hh, .ref ps, .ref pb])), (hh, .inr (0, [.ref lf, .ref rt, .ref rp])), (lf, .inl (cJ, 512, .inr (.inl (fun t9 => lI (FL t9))))), (rt, .inl (cJ, 512, .inr (.inl (fun t9 => lI (FR t9))))), (rp, .inl (cJ, 256, .inr (.inl (fun t9 => lI (FP t9))))), (ra, .inl (cI, 256, .inl fA)), (pb, .inl (cI, 256, .inl fp)), (ps, .inr (1, [.ref po])), (po, .inl (cO, 3, .inr (.inr (.inr (.inr g9))))), (p0, .inl (cI, 256, .inl S0)), (p1, .inl (cI, 256, .inl S1)), (p2, .inl (cI, 256, .inl S2))]) [0, 1, 2, 3, 4, 5, 6, 7, 8, 9, 10, 11] (by decide) rfl
  have hKc := hK.sub (tys' := [(cI, .int), (cJ, .long), (cO, .array .int)]) [0, 1, 2] rfl
  have hFc := va_free (wc := [(xo, .inr (2, [.int (nI k), .ref ra, .ref rb, .int (nI rs), .ref sm, .ref hh, .ref ps, .ref pb])), (hh, .inr (0, [.ref lf, .ref rt, .ref rp])), (lf, .inl (cJ, 512, .inr (.inl (fun t9 => lI (FL t9))))), (rt, .inl (cJ, 512, .inr (.inl (fun t9 => lI (FR t9))))), (rp, .inl (cJ, 256, .inr (.inl (fun t9 => lI (FP t9))))), (ra, .inl (cI, 256, .inl fA)), (pb, .inl (cI, 256, .inl fp)), (ps, .inr (1, [.ref po])), (po, .inl (cO, 3, .inr (.inr (.inr (.inr g9))))), (p0, .inl (cI, 256, .inl S0)), (p1, .inl (cI, 256, .inl S1)), (p2, .inl (cI, 256, .inl S2))]) hD hS hA [0, 1, 2, 3, 4, 5, 6, 7, 8, 9, 10, 11] rfl
  refine va_calli (va_runV (As := [.int (nI x)]) (rest := [.int (nI 0), .ref oa]) ⟨hx, hb, hml, hown, hts⟩ (c_X3_power_ok l dC dI xo ra rb sm hh ps pb k rs cI cJ cO lf rt rp po p0 p1 p2 g9 fA fp S0 S1 S2 FL FR FP x H.size tP sa zk1 zk hq0 hq1 hq2 zx1 zx2) (cwV 1 hts gL_power_X3_power rfl rfl rfl (by decide +kernel) ⟨Nat.le_of_ble_eq_true rfl, Nat.le_of_ble_eq_true rfl⟩) ⟨fun a U g mk q => by obtain ⟨q0, q1, qP, qK, qD, qM⟩ := q; exact ⟨q0, q1, qP, va_K.moved (u := U) (U := U.calling g mk a) (Vm.Alike.refl U.vm) qK, qD, amb_same (U := U) (U' := U.calling g mk a) rfl rfl qM⟩, va_recv hKc hPc (ci := 2) (q0 := 0) rfl rfl, fun U hU hW => ⟨rfl, by rw [hU], by rw [hU]; exact hPc, va_K.moved hW.alike hKc, hDc.weaken (fun _ _ _ _ => trivial), amb_pass hM hS hFc hW hU⟩⟩ rfl rfl hl.1 rfl (lv_room (Nat.le_of_ble_eq_true rfl)) dL_power_4 ⟨Nat.le_of_ble_eq_true rfl, Nat.le_of_ble_eq_true rfl⟩) hS (fun q _ h => hFc q h) hFc (fun r9 u9 t9 H1 locs ht hvm hw hB hz1 hk1 hS => ?_)
  obtain ⟨wk_8, ⟨w1_3, w2_1, w3_2⟩, ⟨y1_6, y2_4, y3_5⟩, yb_7⟩ := u9
  obtain ⟨hP1, hD1⟩ := hB
  dsimp only at hP1 hD1
  rw [ht] at hP1
  try dsimp only at hw
  obtain ⟨hwr, hwx⟩ := hw
  subst hwr
  obtain ⟨hP, hD⟩ := va_join (wr := [(oa, .inl (cJ, 1, .inr (.inl (fun t9 => lI (FO t9)))))]) (w1 := [(xo, .inr (2, [.int (nI k), .ref ra, .ref rb, .int (nI rs), .ref sm, .ref hh, .ref ps, .ref pb])), (hh, .inr (0, [.ref lf, .ref rt, .ref rp])), (lf, .inl (cJ, 512, .inr (.inl (fun t9 => lI (w1_3 t9))))), (rt, .inl (cJ, 512, .inr (.inl (fun t9 => lI (w2_1 t9))))), (rp, .inl (cJ, 256, .inr (.inl (fun t9 => lI (w3_2 t9))))), (ra, .inl (cI, 256, .inl wk_8)), (pb, .inl (cI, 256, .inl yb_7)), (ps, .inr (1, [.ref po])), (po, .inl (cO, 3, .inr (.inr (.inr (.inr g9))))), (p0, .inl (cI, 256, .inl y1_6)), (p1, .inl (cI, 256, .inl y2_4)), (p2, .inl (cI, 256, .inl y3_5))]) hP hD [0, 1, 2, 3, 4, 5, 6, 7, 8, 9, 10, 11] [12] rfl rfl (by decide) (by decide) hk1 hFc hP1 hD1
  generalize H1 = H at hP hS ⊢
  have hP : va_P (dC, dI) vwCl [(oa, .inl (cJ, 1, .inr (.inl (fun t9 => lI (FO t9))))), (xo, .inr (2, [.int (nI k), .ref ra, .ref rb, .int (nI rs), .ref sm, .ref hh, .ref ps, .ref pb])), (hh, .inr (0, [.ref lf, .ref rt, .ref rp])), (lf, .inl (cJ, 512, .inr (.inl (fun t9 => lI (w1_3 t9))))), (rt, .inl (cJ, 512, .inr (.inl (fun t9 => lI (w2_1 t9))))), (rp, .inl (cJ, 256, .inr (.inl (fun t9 => lI (w3_2 t9))))), (ra, .inl (cI, 256, .inl wk_8)), (pb, .inl (cI, 256, .inl yb_7)), (ps, .inr (1, [.ref po])), (po, .inl (cO, 3, .inr (.inr (.inr (.inr g9))))), (p0, .inl (cI, 256, .inl y1_6)), (p1, .inl (cI, 256, .inl y2_4)), (p2, .inl (cI, 256, .inl y3_5))] H := hP
  have hD : va_D A [(oa, .inl (cJ, 1, .inr (.inl (fun t9 => lI (FO t9))))), (xo, .inr (2, [.int (nI k), .ref ra, .ref rb, .int (nI rs), .ref sm, .ref hh, .ref ps, .ref pb])), (hh, .inr (0, [.ref lf, .ref rt, .ref rp])), (lf, .inl (cJ, 512, .inr (.inl (fun t9 => lI (w1_3 t9))))), (rt, .inl (cJ, 512, .inr (.inl (fun t9 => lI (w2_1 t9))))), (rp, .inl (cJ, 256, .inr (.inl (fun t9 => lI (w3_2 t9))))), (ra, .inl (cI, 256, .inl wk_8)), (pb, .inl (cI, 256, .inl yb_7)), (ps, .inr (1, [.ref po])), (po, .inl (cO, 3, .inr (.inr (.inr (.inr g9))))), (p0, .inl (cI, 256, .inl y1_6)), (p1, .inl (cI, 256, .inl y2_4)), (p2, .inl (cI, 256, .inl y3_5))] := hD
  clear hPc hDc hKc hFc hP1 hD1 hk1 hz1 hvm ht
  refine lv_i2l (v := lI ((wk_8 0).toInt)) hx hb dL_power_7 (i2l_I (wk_8 0)) ?_
  refine va_last hx hb hK hP hD hS 0 1 rfl rfl (vp_in_nI (by omega) (by omega)) dL_power_8 (fun H locs hP hD hS => ?_)
  rw [nI_clamp (show 0 < 2 ^ 31 by omega)] at hP hD
  rw [upI_l] at hP hD
  have hP : va_P (dC, dI) vwCl [(oa, .inl (cJ, 1, .inr (.inl (fun t9 => lI ((upI FO 0 ((wk_8 0).toInt)) t9))))), (xo, .inr (2, [.int (nI k), .ref ra, .ref rb, .int (nI rs), .ref sm, .ref hh, .ref ps, .ref pb])), (hh, .inr (0, [.ref lf, .ref rt, .ref rp])), (lf, .inl (cJ, 512, .inr (.inl (fun t9 => lI (w1_3 t9))))), (rt, .inl (cJ, 512, .inr (.inl (fun t9 => lI (w2_1 t9))))), (rp, .inl (cJ, 256, .inr (.inl (fun t9 => lI (w3_2 t9))))), (ra, .inl (cI, 256, .inl wk_8)), (pb, .inl (cI, 256, .inl yb_7)), (ps, .inr (1, [.ref po])), (po, .inl (cO, 3, .inr (.inr (.inr (.inr g9))))), (p0, .inl (cI, 256, .inl y1_6)), (p1, .inl (cI, 256, .inl y2_4)), (p2, .inl (cI, 256, .inl y3_5))] H := hP
  have hD : va_D A [(oa, .inl (cJ, 1, .inr (.inl (fun t9 => lI ((upI FO 0 ((wk_8 0).toInt)) t9))))), (xo, .inr (2, [.int (nI k), .ref ra, .ref rb, .int (nI rs), .ref sm, .ref hh, .ref ps, .ref pb])), (hh, .inr (0, [.ref lf, .ref rt, .ref rp])), (lf, .inl (cJ, 512, .inr (.inl (fun t9 => lI (w1_3 t9))))), (rt, .inl (cJ, 512, .inr (.inl (fun t9 => lI (w2_1 t9))))), (rp, .inl (cJ, 256, .inr (.inl (fun t9 => lI (w3_2 t9))))), (ra, .inl (cI, 256, .inl wk_8)), (pb, .inl (cI, 256, .inl yb_7)), (ps, .inr (1, [.ref po])), (po, .inl (cO, 3, .inr (.inr (.inr (.inr g9))))), (p0, .inl (cI, 256, .inl y1_6)), (p1, .inl (cI, 256, .inl y2_4)), (p2, .inl (cI, 256, .inl y3_5))] := hD
  refine lv_goto (tgt := 15) hx hb dL_power_9 (by decide) ?_
  refine lv_iconst (v := nI 0) hx hb dL_power_15 (by decide) ?_
  have hP9 : va_P (dC, dI) vwCl [(xo, .inr (2, [.int (nI k), .ref ra, .ref rb, .int (nI rs), .ref sm, .ref hh, .ref ps, .ref pb])), (hh, .inr (0, [.ref lf, .ref rt, .ref rp])), (lf, .inl (cJ, 512, .inr (.inl (fun t9 => lI (w1_3 t9))))), (rt, .inl (cJ, 512, .inr (.inl (fun t9 => lI (w2_1 t9))))), (rp, .inl (cJ, 256, .inr (.inl (fun t9 => lI (w3_2 t9))))), (ra, .inl (cI, 256, .inl wk_8)), (pb, .inl (cI, 256, .inl yb_7)), (ps, .inr (1, [.ref po])), (po, .inl (cO, 3, .inr (.inr (.inr (.inr g9))))), (p0, .inl (cI, 256, .inl y1_6)), (p1, .inl (cI, 256, .inl y2_4)), (p2, .inl (cI, 256, .inl y3_5)), (oa, .inl (cJ, 1, .inr (.inl (fun t9 => lI ((upI FO 0 ((wk_8 0).toInt)) t9)))))] H := hP.sub [1, 2, 3, 4, 5, 6, 7, 8, 9, 10, 11, 12, 0] rfl
  have hD9 : va_D A [(xo, .inr (2, [.int (nI k), .ref ra, .ref rb, .int (nI rs), .ref sm, .ref hh, .ref ps, .ref pb])), (hh, .inr (0, [.ref lf, .ref rt, .ref rp])), (lf, .inl (cJ, 512, .inr (.inl (fun t9 => lI (w1_3 t9))))), (rt, .inl (cJ, 512, .inr (.inl (fun t9 => lI (w2_1 t9))))), (rp, .inl (cJ, 256, .inr (.inl (fun t9 => lI (w3_2 t9))))), (ra, .inl (cI, 256, .inl wk_8)), (pb, .inl (cI, 256, .inl yb_7)), (ps, .inr (1, [.ref po])), (po, .inl (cO, 3, .inr (.inr (.inr (.inr g9))))), (p0, .inl (cI, 256, .inl y1_6)), (p1, .inl (cI, 256, .inl y2_4)), (p2, .inl (cI, 256, .inl y3_5)), (oa, .inl (cJ, 1, .inr (.inl (fun t9 => lI ((upI FO 0 ((wk_8 0).toInt)) t9)))))] := hD.sub [1, 2, 3, 4, 5, 6, 7, 8, 9, 10, 11, 12, 0] (by decide) rfl
  exact W.iret (v := nI 0) hx hb hr (fun tq9 ht hW => ⟨⟨nI 0, (wk_8, (w1_3, w2_1, w3_2), (y1_6, y2_4, y3_5), yb_7), rfl, ⟨rfl, hwx⟩, by rw [ht]; exact hP9, hD9⟩, hS.F ht⟩) hS.2.2 dL_power_16

abbrev q_L_power_bad (dC : Nat → ClassId) (dI : Nat → Nat → Nat) (xo ra rb sm hh ps pb k rs : Nat) (i : Int32) (oa : Nat) (A : Nat → Prop) : Array Value → State → Outcome → State → Prop := va_Qi (fun (r : Int32) (u : Unit) => r = nI 1) (fun u t => va_P (dC, dI) vwCl [(xo, .inr (2, [.int (nI k), .ref ra, .ref rb, .int (nI rs), .ref sm, .ref hh, .ref ps, .ref pb]))] t.heap ∧ va_D A [(xo, .inr (2, [.int (nI k), .ref ra, .ref rb, .int (nI rs), .ref sm, .ref hh, .ref ps, .ref pb]))]) A
set_option maxHeartbeats 4000000 in
set_option maxRecDepth 100000 in
theorem c_L_power_bad (l : Launch) (dC : Nat → ClassId) (dI : Nat → Nat → Nat) (xo ra rb sm hh ps pb k rs : Nat) (i : Int32) (oa : Nat) (sz : Nat) (tP : Nat) (sa : Nat → Nat) (hl9 : l.stackTraces = false) (hbad : i < nI 1 ∨ nI 1000 < i) : Met l yL_power wsL_power ({ frames := 7, cells := 1, slots := 6, locals := 105 }) (va_Pc [.ref xo, .int i, .ref oa] (fun U => U.heap.size = sz ∧ va_P (dC, dI) vwCl [(xo, .inr (2, [.int (nI k), .ref ra, .ref rb, .int (nI rs), .ref sm, .ref hh, .ref ps, .ref pb]))] U.heap ∧ va_K (dC, dI) vwCl [] U ∧ va_D (fun _ => True) [(xo, .inr (2, [.int (nI k), .ref ra, .ref rb, .int (nI rs), .ref sm, .ref hh, .ref ps, .ref pb]))] ∧ amb tP sa (va_A [(xo, .inr (2, [.int (nI k), .ref ra, .ref rb, .int (nI rs), .ref sm, .ref hh, .ref ps, .ref pb]))] sz) U U.heap)) (q_L_power_bad dC dI xo ra rb sm hh ps pb k rs i oa (va_A [(xo, .inr (2, [.int (nI k), .ref ra, .ref rb, .int (nI rs), .ref sm, .ref hh, .ref ps, .ref pb]))] sz)) 1 6 (va_A [(xo, .inr (2, [.int (nI k), .ref ra, .ref rb, .int (nI rs), .ref sm, .ref hh, .ref ps, .ref pb]))] sz) := by
  refine va_MetW (cc := cL_power) (maxL := 4) (ret := (some .int)) (hh := [(0, 9, 12, 13)]) (by decide) rfl ?_
  intro p e s m args below meth c s₁ B hml hv
  obtain ⟨rfl, hsz, hP, hK, hD0, hM⟩ := hv
  have hx := B.exec
  have hb := B.bytes
  have hr := B.returns
  have hts := atoms_spec (ws := wsL_power) B.pre
  have hown : s.vm.findClass RL = some m.cls := findClass_of_methodNamed B.named
  have hlocks := B.notSynchronized
  have htab := vx_table (x := yL_power) B (hts (.codeWith yL_power cL_power 4 (some .int) [(0, 9, 12, 13)]) List.mem_cons_self)
  subst hsz
  have hD := hD0.self (sz := s.heap.size)
  generalize hAe : va_A [(xo, .inr (2, [.int (nI k), .ref ra, .ref rb, .int (nI rs), .ref sm, .ref hh, .ref ps, .ref pb]))] s.heap.size = A at hD hM ⊢
  have hA : ∀ q : Nat, s.heap.size ≤ q → A q := fun q h => by rw [← hAe]; exact Or.inr h
  have hS : va_S A s.heap s.heap [] := va_S.rf
  have hP : va_P (dC, dI) vwCl [(xo, .inr (2, [.int (nI k), .ref ra, .ref rb, .int (nI rs), .ref sm, .ref hh, .ref ps, .ref pb]))] s.heap := hP
  have hl := lv_entry (([.ref xo, .int i, .ref oa] : List Value)) (n := 4) (Nat.le_of_ble_eq_true rfl)
  rw [lg_entry_eq]
  generalize (lg_sl (([.ref xo, .int i, .ref oa] : List Value)) ++ List.replicate (4 - (lg_sl (([.ref xo, .int i, .ref oa] : List Value))).length) Slot.unset).toArray = ls at hl ⊢
  have hl : lv_has ls 4 [(0, .ref xo), (1, .int i), (2, .ref oa)] := hl
  obtain ⟨H, hHe⟩ : ∃ H : Heap, H = s.heap := ⟨_, rfl⟩
  rw [← hHe] at hP
  have hS : va_S A s.heap H [] := by rw [hHe]; exact hS
  obtain ⟨locs, hlo⟩ : ∃ L : List Loc, L = [] := ⟨_, rfl⟩
  rw [← hlo] at hS ⊢
  rw [← hHe]
  refine lv_aload_n hx hb dL_power_0 rfl (lv_at hl 2 rfl) ?_
  refine lv_iconst (v := nI 0) hx hb dL_power_1 (by decide) ?_
  refine lv_aload_n hx hb dL_power_2 rfl (lv_at hl 0 rfl) ?_
  refine lv_iload_n hx hb dL_power_3 rfl (lv_at hl 1 rfl) ?_
  have hPc := hP.sub (ws' := [(xo, .inr (2, [.int (nI k), .ref ra, .ref rb, .int (nI rs), .ref sm, .ref hh, .ref ps, .ref pb]))]) [0] rfl
  have hDc := hD.sub (ws' := [(xo, .inr (2, [.int (nI k), .ref ra, .ref rb, .int (nI rs), .ref sm, .ref hh, .ref ps, .ref pb]))]) [0] (by decide) rfl
  have hKc := hK.sub (tys' := []) [] rfl
  have hFc := va_free (wc := [(xo, .inr (2, [.int (nI k), .ref ra, .ref rb, .int (nI rs), .ref sm, .ref hh, .ref ps, .ref pb]))]) hD hS hA [0] rfl
  refine vx_calli (vx_runV (As := [.int i]) (rest := [.int (nI 0), .ref oa]) ⟨hx, hb, hml, hown, hts⟩ (c_X3_power_bad l dC dI xo ra rb sm hh ps pb k rs i H.size hl9 tP sa hbad) (cwV 1 hts gL_power_X3_power rfl rfl rfl (by decide +kernel) ⟨Nat.le_of_ble_eq_true rfl, Nat.le_of_ble_eq_true rfl⟩) ⟨fun a U g mk q => by obtain ⟨q0, q1, qP, qK, qD, qM⟩ := q; exact ⟨q0, q1, qP, va_K.moved (u := U) (U := U.calling g mk a) (Vm.Alike.refl U.vm) qK, qD, amb_same (U := U) (U' := U.calling g mk a) rfl rfl qM⟩, va_recv hKc hPc (ci := 2) (q0 := 0) rfl rfl, fun U hU hW => ⟨rfl, by rw [hU], by rw [hU]; exact hPc, va_K.moved hW.alike hKc, hDc.weaken (fun _ _ _ _ => trivial), amb_pass hM hS hFc hW hU⟩⟩ rfl rfl hl.1 rfl (lv_room (Nat.le_of_ble_eq_true rfl)) dL_power_4 ⟨Nat.le_of_ble_eq_true rfl, Nat.le_of_ble_eq_true rfl⟩) hS (fun q _ h => hFc q h) hFc (fun q _ h => hFc q h) (fun E9 ce9 q9 u9 t9 H1 locs ht hvm hw hB hz1 hk1 hS hce hcv hcl => ?_) (fun r9 u9 t9 H1 locs ht hvm hw hB hz1 hk1 hS => ?_)
  · obtain ⟨hxp, hP1, hD1⟩ := hB
    rw [ht] at hP1
    obtain ⟨hP, hD⟩ := va_join (wr := []) (w1 := [(xo, .inr (2, [.int (nI k), .ref ra, .ref rb, .int (nI rs), .ref sm, .ref hh, .ref ps, .ref pb]))]) hP hD [0] [] rfl rfl (by decide) (by decide) hk1 hFc hP1 hD1
    subst hxp
    refine vx_catch (own := RL) (name := "java/lang/IllegalArgumentException") hown [] ⟨0, 9, 12, 13⟩ [] (htab.trans rfl) (fun z hz => (List.not_mem_nil hz).elim) (by decide) (by decide) (hts (.classLink RL 13 "java/lang/IllegalArgumentException") (by decide +kernel)) (va_tabs rfl rfl (hM.2.2.1 (.castable "java/lang/IllegalArgumentException" "java/lang/IllegalArgumentException") (by decide +kernel))) hce hcv hcl ?_
    clear hce
    generalize H1 = H at hP hS ⊢
    have hP : va_P (dC, dI) vwCl [(xo, .inr (2, [.int (nI k), .ref ra, .ref rb, .int (nI rs), .ref sm, .ref hh, .ref ps, .ref pb]))] H := hP
    have hD : va_D A [(xo, .inr (2, [.int (nI k), .ref ra, .ref rb, .int (nI rs), .ref sm, .ref hh, .ref ps, .ref pb]))] := hD
    refine W.widen (k := 1) (n := 6) (by omega) (by omega) ?_
    refine W.eq (g2 := F0 m 12 ls [.ref q9]) rfl ?_
    refine lv_astore_n (lv' := [(3, .ref q9), (0, .ref xo), (1, .int i), (2, .ref oa)]) hx hb dL_power_12 rfl hl (by decide) rfl (fun ls hl => ?_)
    refine lv_iconst (v := nI 1) hx hb dL_power_13 (by decide) ?_
    have hP9 : va_P (dC, dI) vwCl [(xo, .inr (2, [.int (nI k), .ref ra, .ref rb, .int (nI rs), .ref sm, .ref hh, .ref ps, .ref pb]))] H := hP.sub [0] rfl
    have hD9 : va_D A [(xo, .inr (2, [.int (nI k), .ref ra, .ref rb, .int (nI rs), .ref sm, .ref hh, .ref ps, .ref pb]))] := hD.sub [0] (by decide) rfl
    exact W.iret (v := nI 1) hx hb hr (fun tq9 ht hW => ⟨⟨nI 1, (), rfl, rfl, by rw [ht]; exact hP9, hD9⟩, hS.F ht⟩) hS.2.2 dL_power_14
  exact hw.elim

abbrev q_L_low_ok (dC : Nat → ClassId) (dI : Nat → Nat → Nat) (xo ra rb sm hh ps pb k rs : Nat) (cI cO : ClassId) (so r0 r1 r2 : Nat) (g : Nat → Option Nat) (R0 R1 R2 : Nat → Int32) (j : Nat) (oa : Nat) (cJ : ClassId) (FO : Nat → Int) (A : Nat → Prop) : Array Value → State → Outcome → State → Prop := va_Qi (fun (r : Int32) (u : Unit) => r = nI 0) (fun u t => va_P (dC, dI) vwCl [(xo, .inr (2, [.int (nI k), .ref ra, .ref rb, .int (nI rs), .ref sm, .ref hh, .ref ps, .ref pb])), (sm, .inr (1, [.ref so])), (so, .inl (cO, 3, .inr (.inr (.inr (.inr g))))), (r0, .inl (cI, 511, .inl R0)), (r1, .inl (cI, 511, .inl R1)), (r2, .inl (cI, 511, .inl R2)), (oa, .inl (cJ, 1, .inr (.inl (fun t9 => lI ((upI FO 0 (lowZ (R0 j).toInt (R1 j).toInt (R2 j).toInt)) t9)))))] t.heap ∧ va_D A [(xo, .inr (2, [.int (nI k), .ref ra, .ref rb, .int (nI rs), .ref sm, .ref hh, .ref ps, .ref pb])), (sm, .inr (1, [.ref so])), (so, .inl (cO, 3, .inr (.inr (.inr (.inr g))))), (r0, .inl (cI, 511, .inl R0)), (r1, .inl (cI, 511, .inl R1)), (r2, .inl (cI, 511, .inl R2)), (oa, .inl (cJ, 1, .inr (.inl (fun t9 => lI ((upI FO 0 (lowZ (R0 j).toInt (R1 j).toInt (R2 j).toInt)) t9)))))]) A
set_option maxHeartbeats 4000000 in
set_option maxRecDepth 100000 in
theorem c_L_low_ok (l : Launch) (dC : Nat → ClassId) (dI : Nat → Nat → Nat) (xo ra rb sm hh ps pb k rs : Nat) (cI cO : ClassId) (so r0 r1 r2 : Nat) (g : Nat → Option Nat) (R0 R1 R2 : Nat → Int32) (j : Nat) (oa : Nat) (cJ : ClassId) (FO : Nat → Int) (sz : Nat) (hg0 : g 0 = some r0) (hg1 : g 1 = some r1) (hg2 : g 2 = some r2) (zj : j < rs) (zrs : rs ≤ 511) : Met l yL_low wsL_low ({ frames := 4, cells := 0, slots := 0, locals := 95 }) (va_Pc [.ref xo, .int (nI j), .ref oa] (fun U => U.heap.size = sz ∧ va_P (dC, dI) vwCl [(xo, .inr (2, [.int (nI k), .ref ra, .ref rb, .int (nI rs), .ref sm, .ref hh, .ref ps, .ref pb])), (sm, .inr (1, [.ref so])), (so, .inl (cO, 3, .inr (.inr (.inr (.inr g))))), (r0, .inl (cI, 511, .inl R0)), (r1, .inl (cI, 511, .inl R1)), (r2, .inl (cI, 511, .inl R2)), (oa, .inl (cJ, 1, .inr (.inl (fun t9 => lI (FO t9)))))] U.heap ∧ va_K (dC, dI) vwCl [(cI, .int), (cO, .array .int), (cJ, .long)] U ∧ va_D (fun _ => True) [(xo, .inr (2, [.int (nI k), .ref ra, .ref rb, .int (nI rs), .ref sm, .ref hh, .ref ps, .ref pb])), (sm, .inr (1, [.ref so])), (so, .inl (cO, 3, .inr (.inr (.inr (.inr g))))), (r0, .inl (cI, 511, .inl R0)), (r1, .inl (cI, 511, .inl R1)), (r2, .inl (cI, 511, .inl R2)), (oa, .inl (cJ, 1, .inr (.inl (fun t9 => lI (FO t9)))))])) (q_L_low_ok dC dI xo ra rb sm hh ps pb k rs cI cO so r0 r1 r2 g R0 R1 R2 j oa cJ FO (va_A [(xo, .inr (2, [.int (nI k), .ref ra, .ref rb, .int (nI rs), .ref sm, .ref hh, .ref ps, .ref pb])), (sm, .inr (1, [.ref so])), (so, .inl (cO, 3, .inr (.inr (.inr (.inr g))))), (r0, .inl (cI, 511, .inl R0)), (r1, .inl (cI, 511, .inl R1)), (r2, .inl (cI, 511, .inl R2)), (oa, .inl (cJ, 1, .inr (.inl (fun t9 => lI (FO t9)))))] sz)) 0 0 (va_A [(xo, .inr (2, [.int (nI k), .ref ra, .ref rb, .int (nI rs), .ref sm, .ref hh, .ref ps, .ref pb])), (sm, .inr (1, [.ref so])), (so, .inl (cO, 3, .inr (.inr (.inr (.inr g))))), (r0, .inl (cI, 511, .inl R0)), (r1, .inl (cI, 511, .inl R1)), (r2, .inl (cI, 511, .inl R2)), (oa, .inl (cJ, 1, .inr (.inl (fun t9 => lI (FO t9)))))] sz) := by
  refine va_MetW (cc := cL_low) (maxL := 4) (ret := (some .int)) (hh := [(0, 8, 11, 19)]) (by decide) rfl ?_
  intro p e s m args below meth c s₁ B hml hv
  obtain ⟨rfl, hsz, hP, hK, hD0⟩ := hv
  have hx := B.exec
  have hb := B.bytes
  have hr := B.returns
  have hts := atoms_spec (ws := wsL_low) B.pre
  have hown : s.vm.findClass RL = some m.cls := findClass_of_methodNamed B.named
  have hlocks := B.notSynchronized
  have htab := vx_table (x := yL_low) B (hts (.codeWith yL_low cL_low 4 (some .int) [(0, 8, 11, 19)]) List.mem_cons_self)
  subst hsz
  have hD := hD0.self (sz := s.heap.size)
  generalize hAe : va_A [(xo, .inr (2, [.int (nI k), .ref ra, .ref rb, .int (nI rs), .ref sm, .ref hh, .ref ps, .ref pb])), (sm, .inr (1, [.ref so])), (so, .inl (cO, 3, .inr (.inr (.inr (.inr g))))), (r0, .inl (cI, 511, .inl R0)), (r1, .inl (cI, 511, .inl R1)), (r2, .inl (cI, 511, .inl R2)), (oa, .inl (cJ, 1, .inr (.inl (fun t9 => lI (FO t9)))))] s.heap.size = A at hD ⊢
  have hA : ∀ q : Nat, s.heap.size ≤ q → A q := fun q h => by rw [← hAe]; exact Or.inr h
  have hS : va_S A s.heap s.heap [] := va_S.rf
  have hP : va_P (dC, dI) vwCl [(xo, .inr (2, [.int (nI k), .ref ra, .ref rb, .int (nI rs), .ref sm, .ref hh, .ref ps, .ref pb])), (sm, .inr (1, [.ref so])), (so, .inl (cO, 3, .inr (.inr (.inr (.inr g))))), (r0, .inl (cI, 511, .inl R0)), (r1, .inl (cI, 511, .inl R1)), (r2, .inl (cI, 511, .inl R2)), (oa, .inl (cJ, 1, .inr (.inl (fun t9 => lI (FO t9)))))] s.heap := hP
  have hl := lv_entry (([.ref xo, .int (nI j), .ref oa] : List Value)) (n := 4) (Nat.le_of_ble_eq_true rfl)
  rw [lg_entry_eq]
  generalize (lg_sl (([.ref xo, .int (nI j), .ref oa] : List Value)) ++ List.replicate (4 - (lg_sl (([.ref xo, .int (nI j), .ref oa] : List Value))).length) Slot.unset).toArray = ls at hl ⊢
  have hl : lv_has ls 4 [(0, .ref xo), (1, .int (nI j)), (2, .ref oa)] := hl
  obtain ⟨H, hHe⟩ : ∃ H : Heap, H = s.heap := ⟨_, rfl⟩
  rw [← hHe] at hP
  have hS : va_S A s.heap H [] := by rw [hHe]; exact hS
  obtain ⟨locs, hlo⟩ : ∃ L : List Loc, L = [] := ⟨_, rfl⟩
  rw [← hlo] at hS ⊢
  rw [← hHe]
  refine lv_aload_n hx hb dL_low_0 rfl (lv_at hl 2 rfl) ?_
  refine lv_iconst (v := nI 0) hx hb dL_low_1 (by decide) ?_
  refine lv_aload_n hx hb dL_low_2 rfl (lv_at hl 0 rfl) ?_
  refine lv_iload_n hx hb dL_low_3 rfl (lv_at hl 1 rfl) ?_
  have hPc := hP.sub (ws' := [(xo, .inr (2, [.int (nI k), .ref ra, .ref rb, .int (nI rs), .ref sm, .ref hh, .ref ps, .ref pb])), (sm, .inr (1, [.ref so])), (so, .inl (cO, 3, .inr (.inr (.inr (.inr g))))), (r0, .inl (cI, 511, .inl R0)), (r1, .inl (cI, 511, .inl R1)), (r2, .inl (cI, 511, .inl R2))]) [0, 1, 2, 3, 4, 5] rfl
  have hDc := hD.sub (ws' := [(xo, .inr (2, [.int (nI k), .ref ra, .ref rb, .int (nI rs), .ref sm, .ref hh, .ref ps, .ref pb])), (sm, .inr (1, [.ref so])), (so, .inl (cO, 3, .inr (.inr (.inr (.inr g))))), (r0, .inl (cI, 511, .inl R0)), (r1, .inl (cI, 511, .inl R1)), (r2, .inl (cI, 511, .inl R2))]) [0, 1, 2, 3, 4, 5] (by decide) rfl
  have hKc := hK.sub (tys' := [(cI, .int), (cO, .array .int)]) [0, 1] rfl
  have hFc := va_free (wc := [(xo, .inr (2, [.int (nI k), .ref ra, .ref rb, .int (nI rs), .ref sm, .ref hh, .ref ps, .ref pb])), (sm, .inr (1, [.ref so])), (so, .inl (cO, 3, .inr (.inr (.inr (.inr g))))), (r0, .inl (cI, 511, .inl R0)), (r1, .inl (cI, 511, .inl R1)), (r2, .inl (cI, 511, .inl R2))]) hD hS hA [0, 1, 2, 3, 4, 5] rfl
  refine va_calll (va_runV (As := [.int (nI j)]) (rest := [.int (nI 0), .ref oa]) ⟨hx, hb, hml, hown, hts⟩ (c_X3_low_ok l dC dI xo ra rb sm hh ps pb k rs cI cO so r0 r1 r2 g R0 R1 R2 j H.size hg0 hg1 hg2 zj zrs) (cwV 1 hts gL_low_X3_low rfl rfl rfl (by decide +kernel) ⟨Nat.le_of_ble_eq_true rfl, Nat.le_of_ble_eq_true rfl⟩) ⟨fun a U g mk q => by obtain ⟨q0, q1, qP, qK, qD⟩ := q; exact ⟨q0, q1, qP, va_K.moved (u := U) (U := U.calling g mk a) (Vm.Alike.refl U.vm) qK, qD⟩, va_recv hKc hPc (ci := 2) (q0 := 0) rfl rfl, fun U hU hW => ⟨rfl, by rw [hU], by rw [hU]; exact hPc, va_K.moved hW.alike hKc, hDc.weaken (fun _ _ _ _ => trivial)⟩⟩ rfl rfl hl.1 rfl (lv_room (Nat.le_of_ble_eq_true rfl)) dL_low_4 ⟨Nat.le_of_ble_eq_true rfl, Nat.le_of_ble_eq_true rfl⟩) hS (fun q _ h => hFc q h) hFc (fun r9 u9 t9 H1 locs ht hvm hw hB hz1 hk1 hS => ?_)
  obtain ⟨hP1, hD1⟩ := hB
  rw [ht] at hP1
  try dsimp only at hw
  obtain ⟨hP, hD⟩ := va_join (wr := [(oa, .inl (cJ, 1, .inr (.inl (fun t9 => lI (FO t9)))))]) (w1 := [(xo, .inr (2, [.int (nI k), .ref ra, .ref rb, .int (nI rs), .ref sm, .ref hh, .ref ps, .ref pb])), (sm, .inr (1, [.ref so])), (so, .inl (cO, 3, .inr (.inr (.inr (.inr g))))), (r0, .inl (cI, 511, .inl R0)), (r1, .inl (cI, 511, .inl R1)), (r2, .inl (cI, 511, .inl R2))]) hP hD [0, 1, 2, 3, 4, 5] [6] rfl rfl (by decide) (by decide) hk1 hFc hP1 hD1
  generalize H1 = H at hP hS ⊢
  have hP : va_P (dC, dI) vwCl [(oa, .inl (cJ, 1, .inr (.inl (fun t9 => lI (FO t9))))), (xo, .inr (2, [.int (nI k), .ref ra, .ref rb, .int (nI rs), .ref sm, .ref hh, .ref ps, .ref pb])), (sm, .inr (1, [.ref so])), (so, .inl (cO, 3, .inr (.inr (.inr (.inr g))))), (r0, .inl (cI, 511, .inl R0)), (r1, .inl (cI, 511, .inl R1)), (r2, .inl (cI, 511, .inl R2))] H := hP
  have hD : va_D A [(oa, .inl (cJ, 1, .inr (.inl (fun t9 => lI (FO t9))))), (xo, .inr (2, [.int (nI k), .ref ra, .ref rb, .int (nI rs), .ref sm, .ref hh, .ref ps, .ref pb])), (sm, .inr (1, [.ref so])), (so, .inl (cO, 3, .inr (.inr (.inr (.inr g))))), (r0, .inl (cI, 511, .inl R0)), (r1, .inl (cI, 511, .inl R1)), (r2, .inl (cI, 511, .inl R2))] := hD
  clear hPc hDc hKc hFc hP1 hD1 hk1 hz1 hvm ht
  subst hw
  refine va_last hx hb hK hP hD hS 0 2 rfl rfl (vp_in_nI (by omega) (by omega)) dL_low_7 (fun H locs hP hD hS => ?_)
  rw [nI_clamp (show 0 < 2 ^ 31 by omega)] at hP hD
  rw [upI_l] at hP hD
  have hP : va_P (dC, dI) vwCl [(oa, .inl (cJ, 1, .inr (.inl (fun t9 => lI ((upI FO 0 (lowZ (R0 j).toInt (R1 j).toInt (R2 j).toInt)) t9))))), (xo, .inr (2, [.int (nI k), .ref ra, .ref rb, .int (nI rs), .ref sm, .ref hh, .ref ps, .ref pb])), (sm, .inr (1, [.ref so])), (so, .inl (cO, 3, .inr (.inr (.inr (.inr g))))), (r0, .inl (cI, 511, .inl R0)), (r1, .inl (cI, 511, .inl R1)), (r2, .inl (cI, 511, .inl R2))] H := hP
  have hD : va_D A [(oa, .inl (cJ, 1, .inr (.inl (fun t9 => lI ((upI FO 0 (lowZ (R0 j).toInt (R1 j).toInt (R2 j).toInt)) t9))))), (xo, .inr (2, [.int (nI k), .ref ra, .ref rb, .int (nI rs), .ref sm, .ref hh, .ref ps, .ref pb])), (sm, .inr (1, [.ref so])), (so, .inl (cO, 3, .inr (.inr (.inr (.inr g))))), (r0, .inl (cI, 511, .inl R0)), (r1, .inl (cI, 511, .inl R1)), (r2, .inl (cI, 511, .inl R2))] := hD
  refine lv_goto (tgt := 14) hx hb dL_low_8 (by decide) ?_
  refine lv_iconst (v := nI 0) hx hb dL_low_14 (by decide) ?_
  have hP9 : va_P (dC, dI) vwCl [(xo, .inr (2, [.int (nI k), .ref ra, .ref rb, .int (nI rs), .ref sm, .ref hh, .ref ps, .ref pb])), (sm, .inr (1, [.ref so])), (so, .inl (cO, 3, .inr (.inr (.inr (.inr g))))), (r0, .inl (cI, 511, .inl R0)), (r1, .inl (cI, 511, .inl R1)), (r2, .inl (cI, 511, .inl R2)), (oa, .inl (cJ, 1, .inr (.inl (fun t9 => lI ((upI FO 0 (lowZ (R0 j).toInt (R1 j).toInt (R2 j).toInt)) t9)))))] H := hP.sub [1, 2, 3, 4, 5, 6, 0] rfl
  have hD9 : va_D A [(xo, .inr (2, [.int (nI k), .ref ra, .ref rb, .int (nI rs), .ref sm, .ref hh, .ref ps, .ref pb])), (sm, .inr (1, [.ref so])), (so, .inl (cO, 3, .inr (.inr (.inr (.inr g))))), (r0, .inl (cI, 511, .inl R0)), (r1, .inl (cI, 511, .inl R1)), (r2, .inl (cI, 511, .inl R2)), (oa, .inl (cJ, 1, .inr (.inl (fun t9 => lI ((upI FO 0 (lowZ (R0 j).toInt (R1 j).toInt (R2 j).toInt)) t9)))))] := hD.sub [1, 2, 3, 4, 5, 6, 0] (by decide) rfl
  exact W.iret (v := nI 0) hx hb hr (fun tq9 ht hW => ⟨⟨nI 0, (), rfl, rfl, by rw [ht]; exact hP9, hD9⟩, hS.F ht⟩) hS.2.2 dL_low_15

abbrev q_L_low_bad (dC : Nat → ClassId) (dI : Nat → Nat → Nat) (xo ra rb sm hh ps pb k rs : Nat) (i : Int32) (oa : Nat) (A : Nat → Prop) : Array Value → State → Outcome → State → Prop := va_Qi (fun (r : Int32) (u : Unit) => r = nI 1) (fun u t => va_P (dC, dI) vwCl [(xo, .inr (2, [.int (nI k), .ref ra, .ref rb, .int (nI rs), .ref sm, .ref hh, .ref ps, .ref pb]))] t.heap ∧ va_D A [(xo, .inr (2, [.int (nI k), .ref ra, .ref rb, .int (nI rs), .ref sm, .ref hh, .ref ps, .ref pb]))]) A
set_option maxHeartbeats 4000000 in
set_option maxRecDepth 100000 in
theorem c_L_low_bad (l : Launch) (dC : Nat → ClassId) (dI : Nat → Nat → Nat) (xo ra rb sm hh ps pb k rs : Nat) (i : Int32) (oa : Nat) (sz : Nat) (tP : Nat) (sa : Nat → Nat) (hl9 : l.stackTraces = false) (hbad : i < 0 ∨ nI rs ≤ i) : Met l yL_low wsL_low ({ frames := 8, cells := 1, slots := 6, locals := 124 }) (va_Pc [.ref xo, .int i, .ref oa] (fun U => U.heap.size = sz ∧ va_P (dC, dI) vwCl [(xo, .inr (2, [.int (nI k), .ref ra, .ref rb, .int (nI rs), .ref sm, .ref hh, .ref ps, .ref pb]))] U.heap ∧ va_K (dC, dI) vwCl [] U ∧ va_D (fun _ => True) [(xo, .inr (2, [.int (nI k), .ref ra, .ref rb, .int (nI rs), .ref sm, .ref hh, .ref ps, .ref pb]))] ∧ amb tP sa (va_A [(xo, .inr (2, [.int (nI k), .ref ra, .ref rb, .int (nI rs), .ref sm, .ref hh, .ref ps, .ref pb]))] sz) U U.heap)) (q_L_low_bad dC dI xo ra rb sm hh ps pb k rs i oa (va_A [(xo, .inr (2, [.int (nI k), .ref ra, .ref rb, .int (nI rs), .ref sm, .ref hh, .ref ps, .ref pb]))] sz)) 1 6 (va_A [(xo, .inr (2, [.int (nI k), .ref ra, .ref rb, .int (nI rs), .ref sm, .ref hh, .ref ps, .ref pb]))] sz) := by
  refine va_MetW (cc := cL_low) (maxL := 4) (ret := (some .int)) (hh := [(0, 8, 11, 19)]) (by decide) rfl ?_
  intro p e s m args below meth c s₁ B hml hv
  obtain ⟨rfl, hsz, hP, hK, hD0, hM⟩ := hv
  have hx := B.exec
  have hb := B.bytes
  have hr := B.returns
  have hts := atoms_spec (ws := wsL_low) B.pre
  have hown : s.vm.findClass RL = some m.cls := findClass_of_methodNamed B.named
  have hlocks := B.notSynchronized
  have htab := vx_table (x := yL_low) B (hts (.codeWith yL_low cL_low 4 (some .int) [(0, 8, 11, 19)]) List.mem_cons_self)
  subst hsz
  have hD := hD0.self (sz := s.heap.size)
  generalize hAe : va_A [(xo, .inr (2, [.int (nI k), .ref ra, .ref rb, .int (nI rs), .ref sm, .ref hh, .ref ps, .ref pb]))] s.heap.size = A at hD hM ⊢
  have hA : ∀ q : Nat, s.heap.size ≤ q → A q := fun q h => by rw [← hAe]; exact Or.inr h
  have hS : va_S A s.heap s.heap [] := va_S.rf
  have hP : va_P (dC, dI) vwCl [(xo, .inr (2, [.int (nI k), .ref ra, .ref rb, .int (nI rs), .ref sm, .ref hh, .ref ps, .ref pb]))] s.heap := hP
  have hl := lv_entry (([.ref xo, .int i, .ref oa] : List Value)) (n := 4) (Nat.le_of_ble_eq_true rfl)
  rw [lg_entry_eq]
  generalize (lg_sl (([.ref xo, .int i, .ref oa] : List Value)) ++ List.replicate (4 - (lg_sl (([.ref xo, .int i, .ref oa] : List Value))).length) Slot.unset).toArray = ls at hl ⊢
  have hl : lv_has ls 4 [(0, .ref xo), (1, .int i), (2, .ref oa)] := hl
  obtain ⟨H, hHe⟩ : ∃ H : Heap, H = s.heap := ⟨_, rfl⟩
  rw [← hHe] at hP
  have hS : va_S A s.heap H [] := by rw [hHe]; exact hS
  obtain ⟨locs, hlo⟩ : ∃ L : List Loc, L = [] := ⟨_, rfl⟩
  rw [← hlo] at hS ⊢
  rw [← hHe]
  refine lv_aload_n hx hb dL_low_0 rfl (lv_at hl 2 rfl) ?_
  refine lv_iconst (v := nI 0) hx hb dL_low_1 (by decide) ?_
  refine lv_aload_n hx hb dL_low_2 rfl (lv_at hl 0 rfl) ?_
  refine lv_iload_n hx hb dL_low_3 rfl (lv_at hl 1 rfl) ?_
  have hPc := hP.sub (ws' := [(xo, .inr (2, [.int (nI k), .ref ra, .ref rb, .int (nI rs), .ref sm, .ref hh, .ref ps, .ref pb]))]) [0] rfl
  have hDc := hD.sub (ws' := [(xo, .inr (2, [.int (nI k), .ref ra, .ref rb, .int (nI rs), .ref sm, .ref hh, .ref ps, .ref pb]))]) [0] (by decide) rfl
  have hKc := hK.sub (tys' := []) [] rfl
  have hFc := va_free (wc := [(xo, .inr (2, [.int (nI k), .ref ra, .ref rb, .int (nI rs), .ref sm, .ref hh, .ref ps, .ref pb]))]) hD hS hA [0] rfl
  refine vx_calll (vx_runV (As := [.int i]) (rest := [.int (nI 0), .ref oa]) ⟨hx, hb, hml, hown, hts⟩ (c_X3_low_bad l dC dI xo ra rb sm hh ps pb k rs i H.size hl9 tP sa hbad) (cwV 1 hts gL_low_X3_low rfl rfl rfl (by decide +kernel) ⟨Nat.le_of_ble_eq_true rfl, Nat.le_of_ble_eq_true rfl⟩) ⟨fun a U g mk q => by obtain ⟨q0, q1, qP, qK, qD, qM⟩ := q; exact ⟨q0, q1, qP, va_K.moved (u := U) (U := U.calling g mk a) (Vm.Alike.refl U.vm) qK, qD, amb_same (U := U) (U' := U.calling g mk a) rfl rfl qM⟩, va_recv hKc hPc (ci := 2) (q0 := 0) rfl rfl, fun U hU hW => ⟨rfl, by rw [hU], by rw [hU]; exact hPc, va_K.moved hW.alike hKc, hDc.weaken (fun _ _ _ _ => trivial), amb_pass hM hS hFc hW hU⟩⟩ rfl rfl hl.1 rfl (lv_room (Nat.le_of_ble_eq_true rfl)) dL_low_4 ⟨Nat.le_of_ble_eq_true rfl, Nat.le_of_ble_eq_true rfl⟩) hS (fun q _ h => hFc q h) hFc (fun q _ h => hFc q h) (fun E9 ce9 q9 u9 t9 H1 locs ht hvm hw hB hz1 hk1 hS hce hcv hcl => ?_) (fun r9 u9 t9 H1 locs ht hvm hw hB hz1 hk1 hS => ?_)
  · obtain ⟨hxp, hP1, hD1⟩ := hB
    rw [ht] at hP1
    obtain ⟨hP, hD⟩ := va_join (wr := []) (w1 := [(xo, .inr (2, [.int (nI k), .ref ra, .ref rb, .int (nI rs), .ref sm, .ref hh, .ref ps, .ref pb]))]) hP hD [0] [] rfl rfl (by decide) (by decide) hk1 hFc hP1 hD1
    subst hxp
    refine vx_catch (own := RL) (name := "java/lang/IndexOutOfBoundsException") hown [] ⟨0, 8, 11, 19⟩ [] (htab.trans rfl) (fun z hz => (List.not_mem_nil hz).elim) (by decide) (by decide) (hts (.classLink RL 19 "java/lang/IndexOutOfBoundsException") (by decide +kernel)) (va_tabs rfl rfl (hM.2.2.1 (.castable "java/lang/IndexOutOfBoundsException" "java/lang/IndexOutOfBoundsException") (by decide +kernel))) hce hcv hcl ?_
    clear hce
    generalize H1 = H at hP hS ⊢
    have hP : va_P (dC, dI) vwCl [(xo, .inr (2, [.int (nI k), .ref ra, .ref rb, .int (nI rs), .ref sm, .ref hh, .ref ps, .ref pb]))] H := hP
    have hD : va_D A [(xo, .inr (2, [.int (nI k), .ref ra, .ref rb, .int (nI rs), .ref sm, .ref hh, .ref ps, .ref pb]))] := hD
    refine W.widen (k := 1) (n := 6) (by omega) (by omega) ?_
    refine W.eq (g2 := F0 m 11 ls [.ref q9]) rfl ?_
    refine lv_astore_n (lv' := [(3, .ref q9), (0, .ref xo), (1, .int i), (2, .ref oa)]) hx hb dL_low_11 rfl hl (by decide) rfl (fun ls hl => ?_)
    refine lv_iconst (v := nI 1) hx hb dL_low_12 (by decide) ?_
    have hP9 : va_P (dC, dI) vwCl [(xo, .inr (2, [.int (nI k), .ref ra, .ref rb, .int (nI rs), .ref sm, .ref hh, .ref ps, .ref pb]))] H := hP.sub [0] rfl
    have hD9 : va_D A [(xo, .inr (2, [.int (nI k), .ref ra, .ref rb, .int (nI rs), .ref sm, .ref hh, .ref ps, .ref pb]))] := hD.sub [0] (by decide) rfl
    exact W.iret (v := nI 1) hx hb hr (fun tq9 ht hW => ⟨⟨nI 1, (), rfl, rfl, by rw [ht]; exact hP9, hD9⟩, hS.F ht⟩) hS.2.2 dL_low_13
  exact hw.elim

abbrev q_L_high_ok (dC : Nat → ClassId) (dI : Nat → Nat → Nat) (xo ra rb sm hh ps pb k rs : Nat) (cI cO : ClassId) (so r0 r1 r2 : Nat) (g : Nat → Option Nat) (R0 R1 R2 : Nat → Int32) (j : Nat) (oa : Nat) (cJ : ClassId) (FO : Nat → Int) (A : Nat → Prop) : Array Value → State → Outcome → State → Prop := va_Qi (fun (r : Int32) (u : Unit) => r = nI 0) (fun u t => va_P (dC, dI) vwCl [(xo, .inr (2, [.int (nI k), .ref ra, .ref rb, .int (nI rs), .ref sm, .ref hh, .ref ps, .ref pb])), (sm, .inr (1, [.ref so])), (so, .inl (cO, 3, .inr (.inr (.inr (.inr g))))), (r0, .inl (cI, 511, .inl R0)), (r1, .inl (cI, 511, .inl R1)), (r2, .inl (cI, 511, .inl R2)), (oa, .inl (cJ, 1, .inr (.inl (fun t9 => lI ((upI FO 0 ((iI (highZ (R0 j).toInt (R1 j).toInt (R2 j).toInt)).toInt)) t9)))))] t.heap ∧ va_D A [(xo, .inr (2, [.int (nI k), .ref ra, .ref rb, .int (nI rs), .ref sm, .ref hh, .ref ps, .ref pb])), (sm, .inr (1, [.ref so])), (so, .inl (cO, 3, .inr (.inr (.inr (.inr g))))), (r0, .inl (cI, 511, .inl R0)), (r1, .inl (cI, 511, .inl R1)), (r2, .inl (cI, 511, .inl R2)), (oa, .inl (cJ, 1, .inr (.inl (fun t9 => lI ((upI FO 0 ((iI (highZ (R0 j).toInt (R1 j).toInt (R2 j).toInt)).toInt)) t9)))))]) A
set_option maxHeartbeats 4000000 in
set_option maxRecDepth 100000 in
theorem c_L_high_ok (l : Launch) (dC : Nat → ClassId) (dI : Nat → Nat → Nat) (xo ra rb sm hh ps pb k rs : Nat) (cI cO : ClassId) (so r0 r1 r2 : Nat) (g : Nat → Option Nat) (R0 R1 R2 : Nat → Int32) (j : Nat) (oa : Nat) (cJ : ClassId) (FO : Nat → Int) (sz : Nat) (hg0 : g 0 = some r0) (hg1 : g 1 = some r1) (hg2 : g 2 = some r2) (zj : j < rs) (zrs : rs ≤ 511) : Met l yL_high wsL_high ({ frames := 4, cells := 0, slots := 0, locals := 101 }) (va_Pc [.ref xo, .int (nI j), .ref oa] (fun U => U.heap.size = sz ∧ va_P (dC, dI) vwCl [(xo, .inr (2, [.int (nI k), .ref ra, .ref rb, .int (nI rs), .ref sm, .ref hh, .ref ps, .ref pb])), (sm, .inr (1, [.ref so])), (so, .inl (cO, 3, .inr (.inr (.inr (.inr g))))), (r0, .inl (cI, 511, .inl R0)), (r1, .inl (cI, 511, .inl R1)), (r2, .inl (cI, 511, .inl R2)), (oa, .inl (cJ, 1, .inr (.inl (fun t9 => lI (FO t9)))))] U.heap ∧ va_K (dC, dI) vwCl [(cI, .int), (cO, .array .int), (cJ, .long)] U ∧ va_D (fun _ => True) [(xo, .inr (2, [.int (nI k), .ref ra, .ref rb, .int (nI rs), .ref sm, .ref hh, .ref ps, .ref pb])), (sm, .inr (1, [.ref so])), (so, .inl (cO, 3, .inr (.inr (.inr (.inr g))))), (r0, .inl (cI, 511, .inl R0)), (r1, .inl (cI, 511, .inl R1)), (r2, .inl (cI, 511, .inl R2)), (oa, .inl (cJ, 1, .inr (.inl (fun t9 => lI (FO t9)))))])) (q_L_high_ok dC dI xo ra rb sm hh ps pb k rs cI cO so r0 r1 r2 g R0 R1 R2 j oa cJ FO (va_A [(xo, .inr (2, [.int (nI k), .ref ra, .ref rb, .int (nI rs), .ref sm, .ref hh, .ref ps, .ref pb])), (sm, .inr (1, [.ref so])), (so, .inl (cO, 3, .inr (.inr (.inr (.inr g))))), (r0, .inl (cI, 511, .inl R0)), (r1, .inl (cI, 511, .inl R1)), (r2, .inl (cI, 511, .inl R2)), (oa, .inl (cJ, 1, .inr (.inl (fun t9 => lI (FO t9)))))] sz)) 0 0 (va_A [(xo, .inr (2, [.int (nI k), .ref ra, .ref rb, .int (nI rs), .ref sm, .ref hh, .ref ps, .ref pb])), (sm, .inr (1, [.ref so])), (so, .inl (cO, 3, .inr (.inr (.inr (.inr g))))), (r0, .inl (cI, 511, .inl R0)), (r1, .inl (cI, 511, .inl R1)), (r2, .inl (cI, 511, .inl R2)), (oa, .inl (cJ, 1, .inr (.inl (fun t9 => lI (FO t9)))))] sz) := by
  refine va_MetW (cc := cL_high) (maxL := 4) (ret := (some .int)) (hh := [(0, 9, 12, 19)]) (by decide) rfl ?_
  intro p e s m args below meth c s₁ B hml hv
  obtain ⟨rfl, hsz, hP, hK, hD0⟩ := hv
  have hx := B.exec
  have hb := B.bytes
  have hr := B.returns
  have hts := atoms_spec (ws := wsL_high) B.pre
  have hown : s.vm.findClass RL = some m.cls := findClass_of_methodNamed B.named
  have hlocks := B.notSynchronized
  have htab := vx_table (x := yL_high) B (hts (.codeWith yL_high cL_high 4 (some .int) [(0, 9, 12, 19)]) List.mem_cons_self)
  subst hsz
  have hD := hD0.self (sz := s.heap.size)
  generalize hAe : va_A [(xo, .inr (2, [.int (nI k), .ref ra, .ref rb, .int (nI rs), .ref sm, .ref hh, .ref ps, .ref pb])), (sm, .inr (1, [.ref so])), (so, .inl (cO, 3, .inr (.inr (.inr (.inr g))))), (r0, .inl (cI, 511, .inl R0)), (r1, .inl (cI, 511, .inl R1)), (r2, .inl (cI, 511, .inl R2)), (oa, .inl (cJ, 1, .inr (.inl (fun t9 => lI (FO t9)))))] s.heap.size = A at hD ⊢
  have hA : ∀ q : Nat, s.heap.size ≤ q → A q := fun q h => by rw [← hAe]; exact Or.inr h
  have hS : va_S A s.heap s.heap [] := va_S.rf
  have hP : va_P (dC, dI) vwCl [(xo, .inr (2, [.int (nI k), .ref ra, .ref rb, .int (nI rs), .ref sm, .ref hh, .ref ps, .ref pb])), (sm, .inr (1, [.ref so])), (so, .inl (cO, 3, .inr (.inr (.inr (.inr g))))), (r0, .inl (cI, 511, .inl R0)), (r1, .inl (cI, 511, .inl R1)), (r2, .inl (cI, 511, .inl R2)), (oa, .inl (cJ, 1, .inr (.inl (fun t9 => lI (FO t9)))))] s.heap := hP
  have hl := lv_entry (([.ref xo, .int (nI j), .ref oa] : List Value)) (n := 4) (Nat.le_of_ble_eq_true rfl)
  rw [lg_entry_eq]
  generalize (lg_sl (([.ref xo, .int (nI j), .ref oa] : List Value)) ++ List.replicate (4 - (lg_sl (([.ref xo, .int (nI j), .ref oa] : List Value))).length) Slot.unset).toArray = ls at hl ⊢
  have hl : lv_has ls 4 [(0, .ref xo), (1, .int (nI j)), (2, .ref oa)] := hl
  obtain ⟨H, hHe⟩ : ∃ H : Heap, H = s.heap := ⟨_, rfl⟩
  rw [← hHe] at hP
  have hS : va_S A s.heap H [] := by rw [hHe]; exact hS
  obtain ⟨locs, hlo⟩ : ∃ L : List Loc, L = [] := ⟨_, rfl⟩
  rw [← hlo] at hS ⊢
  rw [← hHe]
  refine lv_aload_n hx hb dL_high_0 rfl (lv_at hl 2 rfl) ?_
  refine lv_iconst (v := nI 0) hx hb dL_high_1 (by decide) ?_
  refine lv_aload_n hx hb dL_high_2 rfl (lv_at hl 0 rfl) ?_
  refine lv_iload_n hx hb dL_high_3 rfl (lv_at hl 1 rfl) ?_
  have hPc := hP.sub (ws' := [(xo, .inr (2, [.int (nI k), .ref ra, .ref rb, .int (nI rs), .ref sm, .ref hh, .ref ps, .ref pb])), (sm, .inr (1, [.ref so])), (so, .inl (cO, 3, .inr (.inr (.inr (.inr g))))), (r0, .inl (cI, 511, .inl R0)), (r1, .inl (cI, 511, .inl R1)), (r2, .inl (cI, 511, .inl R2))]) [0, 1, 2, 3, 4, 5] rfl
  have hDc := hD.sub (ws' := [(xo, .inr (2, [.int (nI k), .ref ra, .ref rb, .int (nI rs), .ref sm, .ref hh, .ref ps, .ref pb])), (sm, .inr (1, [.ref so])), (so, .inl (cO, 3, .inr (.inr (.inr (.inr g))))), (r0, .inl (cI, 511, .inl R0)), (r1, .inl (cI, 511, .inl R1)), (r2, .inl (cI, 511, .inl R2))]) [0, 1, 2, 3, 4, 5] (by decide) rfl
  have hKc := hK.sub (tys' := [(cI, .int), (cO, .array .int)]) [0, 1] rfl
  have hFc := va_free (wc := [(xo, .inr (2, [.int (nI k), .ref ra, .ref rb, .int (nI rs), .ref sm, .ref hh, .ref ps, .ref pb])), (sm, .inr (1, [.ref so])), (so, .inl (cO, 3, .inr (.inr (.inr (.inr g))))), (r0, .inl (cI, 511, .inl R0)), (r1, .inl (cI, 511, .inl R1)), (r2, .inl (cI, 511, .inl R2))]) hD hS hA [0, 1, 2, 3, 4, 5] rfl
  refine va_calli (va_runV (As := [.int (nI j)]) (rest := [.int (nI 0), .ref oa]) ⟨hx, hb, hml, hown, hts⟩ (c_X3_high_ok l dC dI xo ra rb sm hh ps pb k rs cI cO so r0 r1 r2 g R0 R1 R2 j H.size hg0 hg1 hg2 zj zrs) (cwV 1 hts gL_high_X3_high rfl rfl rfl (by decide +kernel) ⟨Nat.le_of_ble_eq_true rfl, Nat.le_of_ble_eq_true rfl⟩) ⟨fun a U g mk q => by obtain ⟨q0, q1, qP, qK, qD⟩ := q; exact ⟨q0, q1, qP, va_K.moved (u := U) (U := U.calling g mk a) (Vm.Alike.refl U.vm) qK, qD⟩, va_recv hKc hPc (ci := 2) (q0 := 0) rfl rfl, fun U hU hW => ⟨rfl, by rw [hU], by rw [hU]; exact hPc, va_K.moved hW.alike hKc, hDc.weaken (fun _ _ _ _ => trivial)⟩⟩ rfl rfl hl.1 rfl (lv_room (Nat.le_of_ble_eq_true rfl)) dL_high_4 ⟨Nat.le_of_ble_eq_true rfl, Nat.le_of_ble_eq_true rfl⟩) hS (fun q _ h => hFc q h) hFc (fun r9 u9 t9 H1 locs ht hvm hw hB hz1 hk1 hS => ?_)
  obtain ⟨hP1, hD1⟩ := hB
  rw [ht] at hP1
  try dsimp only at hw
  obtain ⟨hP, hD⟩ := va_join (wr := [(oa, .inl (cJ, 1, .inr (.inl (fun t9 => lI (FO t9)))))]) (w1 := [(xo, .inr (2, [.int (nI k), .ref ra, .ref rb, .int (nI rs), .ref sm, .ref hh, .ref ps, .ref pb])), (sm, .inr (1, [.ref so])), (so, .inl (cO, 3, .inr (.inr (.inr (.inr g))))), (r0, .inl (cI, 511, .inl R0)), (r1, .inl (cI, 511, .inl R1)), (r2, .inl (cI, 511, .inl R2))]) hP hD [0, 1, 2, 3, 4, 5] [6] rfl rfl (by decide) (by decide) hk1 hFc hP1 hD1
  generalize H1 = H at hP hS ⊢
  have hP : va_P (dC, dI) vwCl [(oa, .inl (cJ, 1, .inr (.inl (fun t9 => lI (FO t9))))), (xo, .inr (2, [.int (nI k), .ref ra, .ref rb, .int (nI rs), .ref sm, .ref hh, .ref ps, .ref pb])), (sm, .inr (1, [.ref so])), (so, .inl (cO, 3, .inr (.inr (.inr (.inr g))))), (r0, .inl (cI, 511, .inl R0)), (r1, .inl (cI, 511, .inl R1)), (r2, .inl (cI, 511, .inl R2))] H := hP
  have hD : va_D A [(oa, .inl (cJ, 1, .inr (.inl (fun t9 => lI (FO t9))))), (xo, .inr (2, [.int (nI k), .ref ra, .ref rb, .int (nI rs), .ref sm, .ref hh, .ref ps, .ref pb])), (sm, .inr (1, [.ref so])), (so, .inl (cO, 3, .inr (.inr (.inr (.inr g))))), (r0, .inl (cI, 511, .inl R0)), (r1, .inl (cI, 511, .inl R1)), (r2, .inl (cI, 511, .inl R2))] := hD
  clear hPc hDc hKc hFc hP1 hD1 hk1 hz1 hvm ht
  subst hw
  refine lv_i2l (v := lI ((iI (highZ (R0 j).toInt (R1 j).toInt (R2 j).toInt)).toInt)) hx hb dL_high_7 (i2l_I (iI (highZ (R0 j).toInt (R1 j).toInt (R2 j).toInt))) ?_
  refine va_last hx hb hK hP hD hS 0 2 rfl rfl (vp_in_nI (by omega) (by omega)) dL_high_8 (fun H locs hP hD hS => ?_)
  rw [nI_clamp (show 0 < 2 ^ 31 by omega)] at hP hD
  rw [upI_l] at hP hD
  have hP : va_P (dC, dI) vwCl [(oa, .inl (cJ, 1, .inr (.inl (fun t9 => lI ((upI FO 0 ((iI (highZ (R0 j).toInt (R1 j).toInt (R2 j).toInt)).toInt)) t9))))), (xo, .inr (2, [.int (nI k), .ref ra, .ref rb, .int (nI rs), .ref sm, .ref hh, .ref ps, .ref pb])), (sm, .inr (1, [.ref so])), (so, .inl (cO, 3, .inr (.inr (.inr (.inr g))))), (r0, .inl (cI, 511, .inl R0)), (r1, .inl (cI, 511, .inl R1)), (r2, .inl (cI, 511, .inl R2))] H := hP
  have hD : va_D A [(oa, .inl (cJ, 1, .inr (.inl (fun t9 => lI ((upI FO 0 ((iI (highZ (R0 j).toInt (R1 j).toInt (R2 j).toInt)).toInt)) t9))))), (xo, .inr (2, [.int (nI k), .ref ra, .ref rb, .int (nI rs), .ref sm, .ref hh, .ref ps, .ref pb])), (sm, .inr (1, [.ref so])), (so, .inl (cO, 3, .inr (.inr (.inr (.inr g))))), (r0, .inl (cI, 511, .inl R0)), (r1, .inl (cI, 511, .inl R1)), (r2, .inl (cI, 511, .inl R2))] := hD
  refine lv_goto (tgt := 15) hx hb dL_high_9 (by decide) ?_
  refine lv_iconst (v := nI 0) hx hb dL_high_15 (by decide) ?_
  have hP9 : va_P (dC, dI) vwCl [(xo, .inr (2, [.int (nI k), .ref ra, .ref rb, .int (nI rs), .ref sm, .ref hh, .ref ps, .ref pb])), (sm, .inr (1, [.ref so])), (so, .inl (cO, 3, .inr (.inr (.inr (.inr g))))), (r0, .inl (cI, 511, .inl R0)), (r1, .inl (cI, 511, .inl R1)), (r2, .inl (cI, 511, .inl R2)), (oa, .inl (cJ, 1, .inr (.inl (fun t9 => lI ((upI FO 0 ((iI (highZ (R0 j).toInt (R1 j).toInt (R2 j).toInt)).toInt)) t9)))))] H := hP.sub [1, 2, 3, 4, 5, 6, 0] rfl
  have hD9 : va_D A [(xo, .inr (2, [.int (nI k), .ref ra, .ref rb, .int (nI rs), .ref sm, .ref hh, .ref ps, .ref pb])), (sm, .inr (1, [.ref so])), (so, .inl (cO, 3, .inr (.inr (.inr (.inr g))))), (r0, .inl (cI, 511, .inl R0)), (r1, .inl (cI, 511, .inl R1)), (r2, .inl (cI, 511, .inl R2)), (oa, .inl (cJ, 1, .inr (.inl (fun t9 => lI ((upI FO 0 ((iI (highZ (R0 j).toInt (R1 j).toInt (R2 j).toInt)).toInt)) t9)))))] := hD.sub [1, 2, 3, 4, 5, 6, 0] (by decide) rfl
  exact W.iret (v := nI 0) hx hb hr (fun tq9 ht hW => ⟨⟨nI 0, (), rfl, rfl, by rw [ht]; exact hP9, hD9⟩, hS.F ht⟩) hS.2.2 dL_high_16

abbrev q_L_high_bad (dC : Nat → ClassId) (dI : Nat → Nat → Nat) (xo ra rb sm hh ps pb k rs : Nat) (i : Int32) (oa : Nat) (A : Nat → Prop) : Array Value → State → Outcome → State → Prop := va_Qi (fun (r : Int32) (u : Unit) => r = nI 1) (fun u t => va_P (dC, dI) vwCl [(xo, .inr (2, [.int (nI k), .ref ra, .ref rb, .int (nI rs), .ref sm, .ref hh, .ref ps, .ref pb]))] t.heap ∧ va_D A [(xo, .inr (2, [.int (nI k), .ref ra, .ref rb, .int (nI rs), .ref sm, .ref hh, .ref ps, .ref pb]))]) A
set_option maxHeartbeats 4000000 in
set_option maxRecDepth 100000 in
theorem c_L_high_bad (l : Launch) (dC : Nat → ClassId) (dI : Nat → Nat → Nat) (xo ra rb sm hh ps pb k rs : Nat) (i : Int32) (oa : Nat) (sz : Nat) (tP : Nat) (sa : Nat → Nat) (hl9 : l.stackTraces = false) (hbad : i < 0 ∨ nI rs ≤ i) : Met l yL_high wsL_high ({ frames := 8, cells := 1, slots := 6, locals := 124 }) (va_Pc [.ref xo, .int i, .ref oa] (fun U => U.heap.size = sz ∧ va_P (dC, dI) vwCl [(xo, .inr (2, [.int (nI k), .ref ra, .ref rb, .int (nI rs), .ref sm, .ref hh, .ref ps, .ref pb]))] U.heap ∧ va_K (dC, dI) vwCl [] U ∧ va_D (fun _ => True) [(xo, .inr (2, [.int (nI k), .ref ra, .ref rb, .int (nI rs), .ref sm, .ref hh, .ref ps, .ref pb]))] ∧ amb tP sa (va_A [(xo, .inr (2, [.int (nI k), .ref ra, .ref rb, .int (nI rs), .ref sm, .ref hh, .ref ps, .ref pb]))] sz) U U.heap)) (q_L_high_bad dC dI xo ra rb sm hh ps pb k rs i oa (va_A [(xo, .inr (2, [.int (nI k), .ref ra, .ref rb, .int (nI rs), .ref sm, .ref hh, .ref ps, .ref pb]))] sz)) 1 6 (va_A [(xo, .inr (2, [.int (nI k), .ref ra, .ref rb, .int (nI rs), .ref sm, .ref hh, .ref ps, .ref pb]))] sz) := by
  refine va_MetW (cc := cL_high) (maxL := 4) (ret := (some .int)) (hh := [(0, 9, 12, 19)]) (by decide) rfl ?_
  intro p e s m args below meth c s₁ B hml hv
  obtain ⟨rfl, hsz, hP, hK, hD0, hM⟩ := hv
  have hx := B.exec
  have hb := B.bytes
  have hr := B.returns
  have hts := atoms_spec (ws := wsL_high) B.pre
  have hown : s.vm.findClass RL = some m.cls := findClass_of_methodNamed B.named
  have hlocks := B.notSynchronized
  have htab := vx_table (x := yL_high) B (hts (.codeWith yL_high cL_high 4 (some .int) [(0, 9, 12, 19)]) List.mem_cons_self)
  subst hsz
  have hD := hD0.self (sz := s.heap.size)
  generalize hAe : va_A [(xo, .inr (2, [.int (nI k), .ref ra, .ref rb, .int (nI rs), .ref sm, .ref hh, .ref ps, .ref pb]))] s.heap.size = A at hD hM ⊢
  have hA : ∀ q : Nat, s.heap.size ≤ q → A q := fun q h => by rw [← hAe]; exact Or.inr h
  have hS : va_S A s.heap s.heap [] := va_S.rf
  have hP : va_P (dC, dI) vwCl [(xo, .inr (2, [.int (nI k), .ref ra, .ref rb, .int (nI rs), .ref sm, .ref hh, .ref ps, .ref pb]))] s.heap := hP
  have hl := lv_entry (([.ref xo, .int i, .ref oa] : List Value)) (n := 4) (Nat.le_of_ble_eq_true rfl)
  rw [lg_entry_eq]
  generalize (lg_sl (([.ref xo, .int i, .ref oa] : List Value)) ++ List.replicate (4 - (lg_sl (([.ref xo, .int i, .ref oa] : List Value))).length) Slot.unset).toArray = ls at hl ⊢
  have hl : lv_has ls 4 [(0, .ref xo), (1, .int i), (2, .ref oa)] := hl
  obtain ⟨H, hHe⟩ : ∃ H : Heap, H = s.heap := ⟨_, rfl⟩
  rw [← hHe] at hP
  have hS : va_S A s.heap H [] := by rw [hHe]; exact hS
  obtain ⟨locs, hlo⟩ : ∃ L : List Loc, L = [] := ⟨_, rfl⟩
  rw [← hlo] at hS ⊢
  rw [← hHe]
  refine lv_aload_n hx hb dL_high_0 rfl (lv_at hl 2 rfl) ?_
  refine lv_iconst (v := nI 0) hx hb dL_high_1 (by decide) ?_
  refine lv_aload_n hx hb dL_high_2 rfl (lv_at hl 0 rfl) ?_
  refine lv_iload_n hx hb dL_high_3 rfl (lv_at hl 1 rfl) ?_
  have hPc := hP.sub (ws' := [(xo, .inr (2, [.int (nI k), .ref ra, .ref rb, .int (nI rs), .ref sm, .ref hh, .ref ps, .ref pb]))]) [0] rfl
  have hDc := hD.sub (ws' := [(xo, .inr (2, [.int (nI k), .ref ra, .ref rb, .int (nI rs), .ref sm, .ref hh, .ref ps, .ref pb]))]) [0] (by decide) rfl
  have hKc := hK.sub (tys' := []) [] rfl
  have hFc := va_free (wc := [(xo, .inr (2, [.int (nI k), .ref ra, .ref rb, .int (nI rs), .ref sm, .ref hh, .ref ps, .ref pb]))]) hD hS hA [0] rfl
  refine vx_calli (vx_runV (As := [.int i]) (rest := [.int (nI 0), .ref oa]) ⟨hx, hb, hml, hown, hts⟩ (c_X3_high_bad l dC dI xo ra rb sm hh ps pb k rs i H.size hl9 tP sa hbad) (cwV 1 hts gL_high_X3_high rfl rfl rfl (by decide +kernel) ⟨Nat.le_of_ble_eq_true rfl, Nat.le_of_ble_eq_true rfl⟩) ⟨fun a U g mk q => by obtain ⟨q0, q1, qP, qK, qD, qM⟩ := q; exact ⟨q0, q1, qP, va_K.moved (u := U) (U := U.calling g mk a) (Vm.Alike.refl U.vm) qK, qD, amb_same (U := U) (U' := U.calling g mk a) rfl rfl qM⟩, va_recv hKc hPc (ci := 2) (q0 := 0) rfl rfl, fun U hU hW => ⟨rfl, by rw [hU], by rw [hU]; exact hPc, va_K.moved hW.alike hKc, hDc.weaken (fun _ _ _ _ => trivial), amb_pass hM hS hFc hW hU⟩⟩ rfl rfl hl.1 rfl (lv_room (Nat.le_of_ble_eq_true rfl)) dL_high_4 ⟨Nat.le_of_ble_eq_true rfl, Nat.le_of_ble_eq_true rfl⟩) hS (fun q _ h => hFc q h) hFc (fun q _ h => hFc q h) (fun E9 ce9 q9 u9 t9 H1 locs ht hvm hw hB hz1 hk1 hS hce hcv hcl => ?_) (fun r9 u9 t9 H1 locs ht hvm hw hB hz1 hk1 hS => ?_)
  · obtain ⟨hxp, hP1, hD1⟩ := hB
    rw [ht] at hP1
    obtain ⟨hP, hD⟩ := va_join (wr := []) (w1 := [(xo, .inr (2, [.int (nI k), .ref ra, .ref rb, .int (nI rs), .ref sm, .ref hh, .ref ps, .ref pb]))]) hP hD [0] [] rfl rfl (by decide) (by decide) hk1 hFc hP1 hD1
    subst hxp
    refine vx_catch (own := RL) (name := "java/lang/IndexOutOfBoundsException") hown [] ⟨0, 9, 12, 19⟩ [] (htab.trans rfl) (fun z hz => (List.not_mem_nil hz).elim) (by decide) (by decide) (hts (.classLink RL 19 "java/lang/IndexOutOfBoundsException") (by decide +kernel)) (va_tabs rfl rfl (hM.2.2.1 (.castable "java/lang/IndexOutOfBoundsException" "java/lang/IndexOutOfBoundsException") (by decide +kernel))) hce hcv hcl ?_
    clear hce
    generalize H1 = H at hP hS ⊢
    have hP : va_P (dC, dI) vwCl [(xo, .inr (2, [.int (nI k), .ref ra, .ref rb, .int (nI rs), .ref sm, .ref hh, .ref ps, .ref pb]))] H := hP
    have hD : va_D A [(xo, .inr (2, [.int (nI k), .ref ra, .ref rb, .int (nI rs), .ref sm, .ref hh, .ref ps, .ref pb]))] := hD
    refine W.widen (k := 1) (n := 6) (by omega) (by omega) ?_
    refine W.eq (g2 := F0 m 12 ls [.ref q9]) rfl ?_
    refine lv_astore_n (lv' := [(3, .ref q9), (0, .ref xo), (1, .int i), (2, .ref oa)]) hx hb dL_high_12 rfl hl (by decide) rfl (fun ls hl => ?_)
    refine lv_iconst (v := nI 1) hx hb dL_high_13 (by decide) ?_
    have hP9 : va_P (dC, dI) vwCl [(xo, .inr (2, [.int (nI k), .ref ra, .ref rb, .int (nI rs), .ref sm, .ref hh, .ref ps, .ref pb]))] H := hP.sub [0] rfl
    have hD9 : va_D A [(xo, .inr (2, [.int (nI k), .ref ra, .ref rb, .int (nI rs), .ref sm, .ref hh, .ref ps, .ref pb]))] := hD.sub [0] (by decide) rfl
    exact W.iret (v := nI 1) hx hb hr (fun tq9 ht hW => ⟨⟨nI 1, (), rfl, rfl, by rw [ht]; exact hP9, hD9⟩, hS.F ht⟩) hS.2.2 dL_high_14
  exact hw.elim

abbrev q_L_rest_0 (dC : Nat → ClassId) (dI : Nat → Nat → Nat) (xo ra rb sm hh ps pb k rs : Nat) (cI cO : ClassId) (so r0 r1 r2 : Nat) (g : Nat → Option Nat) (R0 R1 R2 : Nat → Int32) (j : Nat) (oa : Nat) (cJ : ClassId) (FO : Nat → Int) (A : Nat → Prop) : Array Value → State → Outcome → State → Prop := va_Qi (fun (r : Int32) (u : Unit) => r = nI 0) (fun u t => va_P (dC, dI) vwCl [(xo, .inr (2, [.int (nI k), .ref ra, .ref rb, .int (nI rs), .ref sm, .ref hh, .ref ps, .ref pb])), (sm, .inr (1, [.ref so])), (so, .inl (cO, 3, .inr (.inr (.inr (.inr g))))), (r0, .inl (cI, 511, .inl R0)), (r1, .inl (cI, 511, .inl R1)), (r2, .inl (cI, 511, .inl R2)), (oa, .inl (cJ, 1, .inr (.inl (fun t9 => lI ((upI FO 0 ((R0 j).toInt)) t9)))))] t.heap ∧ va_D A [(xo, .inr (2, [.int (nI k), .ref ra, .ref rb, .int (nI rs), .ref sm, .ref hh, .ref ps, .ref pb])), (sm, .inr (1, [.ref so])), (so, .inl (cO, 3, .inr (.inr (.inr (.inr g))))), (r0, .inl (cI, 511, .inl R0)), (r1, .inl (cI, 511, .inl R1)), (r2, .inl (cI, 511, .inl R2)), (oa, .inl (cJ, 1, .inr (.inl (fun t9 => lI ((upI FO 0 ((R0 j).toInt)) t9)))))]) A
set_option maxHeartbeats 4000000 in
set_option maxRecDepth 100000 in
theorem c_L_rest_0 (l : Launch) (dC : Nat → ClassId) (dI : Nat → Nat → Nat) (xo ra rb sm hh ps pb k rs : Nat) (cI cO : ClassId) (so r0 r1 r2 : Nat) (g : Nat → Option Nat) (R0 R1 R2 : Nat → Int32) (j : Nat) (oa : Nat) (cJ : ClassId) (FO : Nat → Int) (sz : Nat) (tP : Nat) (sa : Nat → Nat) (hg0 : g 0 = some r0) (hg1 : g 1 = some r1) (hg2 : g 2 = some r2) (zj : j < rs) (zrs : rs ≤ 511) : Met l yL_rest wsL_rest ({ frames := 2, cells := 0, slots := 0, locals := 44 }) (va_Pc [.ref xo, .int (nI 0), .int (nI j), .ref oa] (fun U => U.heap.size = sz ∧ va_P (dC, dI) vwCl [(xo, .inr (2, [.int (nI k), .ref ra, .ref rb, .int (nI rs), .ref sm, .ref hh, .ref ps, .ref pb])), (sm, .inr (1, [.ref so])), (so, .inl (cO, 3, .inr (.inr (.inr (.inr g))))), (r0, .inl (cI, 511, .inl R0)), (r1, .inl (cI, 511, .inl R1)), (r2, .inl (cI, 511, .inl R2)), (oa, .inl (cJ, 1, .inr (.inl (fun t9 => lI (FO t9)))))] U.heap ∧ va_K (dC, dI) vwCl [(cI, .int), (cO, .array .int), (cJ, .long)] U ∧ va_D (fun _ => True) [(xo, .inr (2, [.int (nI k), .ref ra, .ref rb, .int (nI rs), .ref sm, .ref hh, .ref ps, .ref pb])), (sm, .inr (1, [.ref so])), (so, .inl (cO, 3, .inr (.inr (.inr (.inr g))))), (r0, .inl (cI, 511, .inl R0)), (r1, .inl (cI, 511, .inl R1)), (r2, .inl (cI, 511, .inl R2)), (oa, .inl (cJ, 1, .inr (.inl (fun t9 => lI (FO t9)))))] ∧ amb tP sa (va_A [(xo, .inr (2, [.int (nI k), .ref ra, .ref rb, .int (nI rs), .ref sm, .ref hh, .ref ps, .ref pb])), (sm, .inr (1, [.ref so])), (so, .inl (cO, 3, .inr (.inr (.inr (.inr g))))), (r0, .inl (cI, 511, .inl R0)), (r1, .inl (cI, 511, .inl R1)), (r2, .inl (cI, 511, .inl R2)), (oa, .inl (cJ, 1, .inr (.inl (fun t9 => lI (FO t9)))))] sz) U U.heap)) (q_L_rest_0 dC dI xo ra rb sm hh ps pb k rs cI cO so r0 r1 r2 g R0 R1 R2 j oa cJ FO (va_A [(xo, .inr (2, [.int (nI k), .ref ra, .ref rb, .int (nI rs), .ref sm, .ref hh, .ref ps, .ref pb])), (sm, .inr (1, [.ref so])), (so, .inl (cO, 3, .inr (.inr (.inr (.inr g))))), (r0, .inl (cI, 511, .inl R0)), (r1, .inl (cI, 511, .inl R1)), (r2, .inl (cI, 511, .inl R2)), (oa, .inl (cJ, 1, .inr (.inl (fun t9 => lI (FO t9)))))] sz)) 0 0 (va_A [(xo, .inr (2, [.int (nI k), .ref ra, .ref rb, .int (nI rs), .ref sm, .ref hh, .ref ps, .ref pb])), (sm, .inr (1, [.ref so])), (so, .inl (cO, 3, .inr (.inr (.inr (.inr g))))), (r0, .inl (cI, 511, .inl R0)), (r1, .inl (cI, 511, .inl R1)), (r2, .inl (cI, 511, .inl R2)), (oa, .inl (cJ, 1, .inr (.inl (fun t9 => lI (FO t9)))))] sz) := by
  refine va_MetW (cc := cL_rest) (maxL := 5) (ret := (some .int)) (hh := [(0, 10, 13, 13), (0, 10, 17, 19)]) (by decide) rfl ?_
  intro p e s m args below meth c s₁ B hml hv
  obtain ⟨rfl, hsz, hP, hK, hD0, hM⟩ := hv
  have hx := B.exec
  have hb := B.bytes
  have hr := B.returns
  have hts := atoms_spec (ws := wsL_rest) B.pre
  have hown : s.vm.findClass RL = some m.cls := findClass_of_methodNamed B.named
  have hlocks := B.notSynchronized
  have htab := vx_table (x := yL_rest) B (hts (.codeWith yL_rest cL_rest 5 (some .int) [(0, 10, 13, 13), (0, 10, 17, 19)]) List.mem_cons_self)
  subst hsz
  have hD := hD0.self (sz := s.heap.size)
  generalize hAe : va_A [(xo, .inr (2, [.int (nI k), .ref ra, .ref rb, .int (nI rs), .ref sm, .ref hh, .ref ps, .ref pb])), (sm, .inr (1, [.ref so])), (so, .inl (cO, 3, .inr (.inr (.inr (.inr g))))), (r0, .inl (cI, 511, .inl R0)), (r1, .inl (cI, 511, .inl R1)), (r2, .inl (cI, 511, .inl R2)), (oa, .inl (cJ, 1, .inr (.inl (fun t9 => lI (FO t9)))))] s.heap.size = A at hD hM ⊢
  have hA : ∀ q : Nat, s.heap.size ≤ q → A q := fun q h => by rw [← hAe]; exact Or.inr h
  have hS : va_S A s.heap s.heap [] := va_S.rf
  have hP : va_P (dC, dI) vwCl [(xo, .inr (2, [.int (nI k), .ref ra, .ref rb, .int (nI rs), .ref sm, .ref hh, .ref ps, .ref pb])), (sm, .inr (1, [.ref so])), (so, .inl (cO, 3, .inr (.inr (.inr (.inr g))))), (r0, .inl (cI, 511, .inl R0)), (r1, .inl (cI, 511, .inl R1)), (r2, .inl (cI, 511, .inl R2)), (oa, .inl (cJ, 1, .inr (.inl (fun t9 => lI (FO t9)))))] s.heap := hP
  have hl := lv_entry (([.ref xo, .int (nI 0), .int (nI j), .ref oa] : List Value)) (n := 5) (Nat.le_of_ble_eq_true rfl)
  rw [lg_entry_eq]
  generalize (lg_sl (([.ref xo, .int (nI 0), .int (nI j), .ref oa] : List Value)) ++ List.replicate (5 - (lg_sl (([.ref xo, .int (nI 0), .int (nI j), .ref oa] : List Value))).length) Slot.unset).toArray = ls at hl ⊢
  have hl : lv_has ls 5 [(0, .ref xo), (1, .int (nI 0)), (2, .int (nI j)), (3, .ref oa)] := hl
  obtain ⟨H, hHe⟩ : ∃ H : Heap, H = s.heap := ⟨_, rfl⟩
  rw [← hHe] at hP
  have hS : va_S A s.heap H [] := by rw [hHe]; exact hS
  obtain ⟨locs, hlo⟩ : ∃ L : List Loc, L = [] := ⟨_, rfl⟩
  rw [← hlo] at hS ⊢
  rw [← hHe]
  refine lv_aload_n hx hb dL_rest_0 rfl (lv_at hl 3 rfl) ?_
  refine lv_iconst (v := nI 0) hx hb dL_rest_1 (by decide) ?_
  refine lv_aload_n hx hb dL_rest_2 rfl (lv_at hl 0 rfl) ?_
  refine lv_iload_n hx hb dL_rest_3 rfl (lv_at hl 1 rfl) ?_
  refine lv_iload_n hx hb dL_rest_4 rfl (lv_at hl 2 rfl) ?_
  have hPc := hP.sub (ws' := [(xo, .inr (2, [.int (nI k), .ref ra, .ref rb, .int (nI rs), .ref sm, .ref hh, .ref ps, .ref pb])), (sm, .inr (1, [.ref so])), (so, .inl (cO, 3, .inr (.inr (.inr (.inr g))))), (r0, .inl (cI, 511, .inl R0)), (r1, .inl (cI, 511, .inl R1)), (r2, .inl (cI, 511, .inl R2))]) [0, 1, 2, 3, 4, 5] rfl
  have hDc := hD.sub (ws' := [(xo, .inr (2, [.int (nI k), .ref ra, .ref rb, .int (nI rs), .ref sm, .ref hh, .ref ps, .ref pb])), (sm, .inr (1, [.ref so])), (so, .inl (cO, 3, .inr (.inr (.inr (.inr g))))), (r0, .inl (cI, 511, .inl R0)), (r1, .inl (cI, 511, .inl R1)), (r2, .inl (cI, 511, .inl R2))]) [0, 1, 2, 3, 4, 5] (by decide) rfl
  have hKc := hK.sub (tys' := [(cI, .int), (cO, .array .int)]) [0, 1] rfl
  have hFc := va_free (wc := [(xo, .inr (2, [.int (nI k), .ref ra, .ref rb, .int (nI rs), .ref sm, .ref hh, .ref ps, .ref pb])), (sm, .inr (1, [.ref so])), (so, .inl (cO, 3, .inr (.inr (.inr (.inr g))))), (r0, .inl (cI, 511, .inl R0)), (r1, .inl (cI, 511, .inl R1)), (r2, .inl (cI, 511, .inl R2))]) hD hS hA [0, 1, 2, 3, 4, 5] rfl
  refine va_calli (va_runV (As := [.int (nI 0), .int (nI j)]) (rest := [.int (nI 0), .ref oa]) ⟨hx, hb, hml, hown, hts⟩ (c_X3_rest_0 l dC dI xo ra rb sm hh ps pb k rs cI cO so r0 r1 r2 g R0 R1 R2 j H.size tP sa hg0 hg1 hg2 zj zrs) (cwV 2 hts gL_rest_X3_rest rfl rfl rfl (by decide +kernel) ⟨Nat.le_of_ble_eq_true rfl, Nat.le_of_ble_eq_true rfl⟩) ⟨fun a U g mk q => by obtain ⟨q0, q1, qP, qK, qD, qM⟩ := q; exact ⟨q0, q1, qP, va_K.moved (u := U) (U := U.calling g mk a) (Vm.Alike.refl U.vm) qK, qD, amb_same (U := U) (U' := U.calling g mk a) rfl rfl qM⟩, va_recv hKc hPc (ci := 2) (q0 := 0) rfl rfl, fun U hU hW => ⟨rfl, by rw [hU], by rw [hU]; exact hPc, va_K.moved hW.alike hKc, hDc.weaken (fun _ _ _ _ => trivial), amb_pass hM hS hFc hW hU⟩⟩ rfl rfl hl.1 rfl (lv_room (Nat.le_of_ble_eq_true rfl)) dL_rest_5 ⟨Nat.le_of_ble_eq_true rfl, Nat.le_of_ble_eq_true rfl⟩) hS (fun q _ h => hFc q h) hFc (fun r9 u9 t9 H1 locs ht hvm hw hB hz1 hk1 hS => ?_)
  obtain ⟨hP1, hD1⟩ := hB
  rw [ht] at hP1
  try dsimp only at hw
  obtain ⟨hP, hD⟩ := va_join (wr := [(oa, .inl (cJ, 1, .inr (.inl (fun t9 => lI (FO t9)))))]) (w1 := [(xo, .inr (2, [.int (nI k), .ref ra, .ref rb, .int (nI rs), .ref sm, .ref hh, .ref ps, .ref pb])), (sm, .inr (1, [.ref so])), (so, .inl (cO, 3, .inr (.inr (.inr (.inr g))))), (r0, .inl (cI, 511, .inl R0)), (r1, .inl (cI, 511, .inl R1)), (r2, .inl (cI, 511, .inl R2))]) hP hD [0, 1, 2, 3, 4, 5] [6] rfl rfl (by decide) (by decide) hk1 hFc hP1 hD1
  generalize H1 = H at hP hS ⊢
  have hP : va_P (dC, dI) vwCl [(oa, .inl (cJ, 1, .inr (.inl (fun t9 => lI (FO t9))))), (xo, .inr (2, [.int (nI k), .ref ra, .ref rb, .int (nI rs), .ref sm, .ref hh, .ref ps, .ref pb])), (sm, .inr (1, [.ref so])), (so, .inl (cO, 3, .inr (.inr (.inr (.inr g))))), (r0, .inl (cI, 511, .inl R0)), (r1, .inl (cI, 511, .inl R1)), (r2, .inl (cI, 511, .inl R2))] H := hP
  have hD : va_D A [(oa, .inl (cJ, 1, .inr (.inl (fun t9 => lI (FO t9))))), (xo, .inr (2, [.int (nI k), .ref ra, .ref rb, .int (nI rs), .ref sm, .ref hh, .ref ps, .ref pb])), (sm, .inr (1, [.ref so])), (so, .inl (cO, 3, .inr (.inr (.inr (.inr g))))), (r0, .inl (cI, 511, .inl R0)), (r1, .inl (cI, 511, .inl R1)), (r2, .inl (cI, 511, .inl R2))] := hD
  clear hPc hDc hKc hFc hP1 hD1 hk1 hz1 hvm ht
  subst hw
  refine lv_i2l (v := lI ((R0 j).toInt)) hx hb dL_rest_8 (i2l_I (R0 j)) ?_
  refine va_last hx hb hK hP hD hS 0 2 rfl rfl (vp_in_nI (by omega) (by omega)) dL_rest_9 (fun H locs hP hD hS => ?_)
  rw [nI_clamp (show 0 < 2 ^ 31 by omega)] at hP hD
  rw [upI_l] at hP hD
  have hP : va_P (dC, dI) vwCl [(oa, .inl (cJ, 1, .inr (.inl (fun t9 => lI ((upI FO 0 ((R0 j).toInt)) t9))))), (xo, .inr (2, [.int (nI k), .ref ra, .ref rb, .int (nI rs), .ref sm, .ref hh, .ref ps, .ref pb])), (sm, .inr (1, [.ref so])), (so, .inl (cO, 3, .inr (.inr (.inr (.inr g))))), (r0, .inl (cI, 511, .inl R0)), (r1, .inl (cI, 511, .inl R1)), (r2, .inl (cI, 511, .inl R2))] H := hP
  have hD : va_D A [(oa, .inl (cJ, 1, .inr (.inl (fun t9 => lI ((upI FO 0 ((R0 j).toInt)) t9))))), (xo, .inr (2, [.int (nI k), .ref ra, .ref rb, .int (nI rs), .ref sm, .ref hh, .ref ps, .ref pb])), (sm, .inr (1, [.ref so])), (so, .inl (cO, 3, .inr (.inr (.inr (.inr g))))), (r0, .inl (cI, 511, .inl R0)), (r1, .inl (cI, 511, .inl R1)), (r2, .inl (cI, 511, .inl R2))] := hD
  refine lv_goto (tgt := 21) hx hb dL_rest_10 (by decide) ?_
  refine lv_iconst (v := nI 0) hx hb dL_rest_21 (by decide) ?_
  have hP9 : va_P (dC, dI) vwCl [(xo, .inr (2, [.int (nI k), .ref ra, .ref rb, .int (nI rs), .ref sm, .ref hh, .ref ps, .ref pb])), (sm, .inr (1, [.ref so])), (so, .inl (cO, 3, .inr (.inr (.inr (.inr g))))), (r0, .inl (cI, 511, .inl R0)), (r1, .inl (cI, 511, .inl R1)), (r2, .inl (cI, 511, .inl R2)), (oa, .inl (cJ, 1, .inr (.inl (fun t9 => lI ((upI FO 0 ((R0 j).toInt)) t9)))))] H := hP.sub [1, 2, 3, 4, 5, 6, 0] rfl
  have hD9 : va_D A [(xo, .inr (2, [.int (nI k), .ref ra, .ref rb, .int (nI rs), .ref sm, .ref hh, .ref ps, .ref pb])), (sm, .inr (1, [.ref so])), (so, .inl (cO, 3, .inr (.inr (.inr (.inr g))))), (r0, .inl (cI, 511, .inl R0)), (r1, .inl (cI, 511, .inl R1)), (r2, .inl (cI, 511, .inl R2)), (oa, .inl (cJ, 1, .inr (.inl (fun t9 => lI ((upI FO 0 ((R0 j).toInt)) t9)))))] := hD.sub [1, 2, 3, 4, 5, 6, 0] (by decide) rfl
  exact W.iret (v := nI 0) hx hb hr (fun tq9 ht hW => ⟨⟨nI 0, (), rfl, rfl, by rw [ht]; exact hP9, hD9⟩, hS.F ht⟩) hS.2.2 dL_rest_22

abbrev q_L_rest_1 (dC : Nat → ClassId) (dI : Nat → Nat → Nat) (xo ra rb sm hh ps pb k rs : Nat) (cI cO : ClassId) (so r0 r1 r2 : Nat) (g : Nat → Option Nat) (R0 R1 R2 : Nat → Int32) (j : Nat) (oa : Nat) (cJ : ClassId) (FO : Nat → Int) (A : Nat → Prop) : Array Value → State → Outcome → State → Prop := va_Qi (fun (r : Int32) (u : Unit) => r = nI 0) (fun u t => va_P (dC, dI) vwCl [(xo, .inr (2, [.int (nI k), .ref ra, .ref rb, .int (nI rs), .ref sm, .ref hh, .ref ps, .ref pb])), (sm, .inr (1, [.ref so])), (so, .inl (cO, 3, .inr (.inr (.inr (.inr g))))), (r0, .inl (cI, 511, .inl R0)), (r1, .inl (cI, 511, .inl R1)), (r2, .inl (cI, 511, .inl R2)), (oa, .inl (cJ, 1, .inr (.inl (fun t9 => lI ((upI FO 0 ((R1 j).toInt)) t9)))))] t.heap ∧ va_D A [(xo, .inr (2, [.int (nI k), .ref ra, .ref rb, .int (nI rs), .ref sm, .ref hh, .ref ps, .ref pb])), (sm, .inr (1, [.ref so])), (so, .inl (cO, 3, .inr (.inr (.inr (.inr g))))), (r0, .inl (cI, 511, .inl R0)), (r1, .inl (cI, 511, .inl R1)), (r2, .inl (cI, 511, .inl R2)), (oa, .inl (cJ, 1, .inr (.inl (fun t9 => lI ((upI FO 0 ((R1 j).toInt)) t9)))))]) A
set_option maxHeartbeats 4000000 in
set_option maxRecDepth 100000 in
theorem c_L_rest_1 (l : Launch) (dC : Nat → ClassId) (dI : Nat → Nat → Nat) (xo ra rb sm hh ps pb k rs : Nat) (cI cO : ClassId) (so r0 r1 r2 : Nat) (g : Nat → Option Nat) (R0 R1 R2 : Nat → Int32) (j : Nat) (oa : Nat) (cJ : ClassId) (FO : Nat → Int) (sz : Nat) (tP : Nat) (sa : Nat → Nat) (hg0 : g 0 = some r0) (hg1 : g 1 = some r1) (hg2 : g 2 = some r2) (zj : j < rs) (zrs : rs ≤ 511) : Met l yL_rest wsL_rest ({ frames := 2, cells := 0, slots := 0, locals := 44 }) (va_Pc [.ref xo, .int (nI 1), .int (nI j), .ref oa] (fun U => U.heap.size = sz ∧ va_P (dC, dI) vwCl [(xo, .inr (2, [.int (nI k), .ref ra, .ref rb, .int (nI rs), .ref sm, .ref hh, .ref ps, .ref pb])), (sm, .inr (1, [.ref so])), (so, .inl (cO, 3, .inr (.inr (.inr (.inr g))))), (r0, .inl (cI, 511, .inl R0)), (r1, .inl (cI, 511, .inl R1)), (r2, .inl (cI, 511, .inl R2)), (oa, .inl (cJ, 1, .inr (.inl (fun t9 => lI (FO t9)))))] U.heap ∧ va_K (dC, dI) vwCl [(cI, .int), (cO, .array .int), (cJ, .long)] U ∧ va_D (fun _ => True) [(xo, .inr (2, [.int (nI k), .ref ra, .ref rb, .int (nI rs), .ref sm, .ref hh, .ref ps, .ref pb])), (sm, .inr (1, [.ref so])), (so, .inl (cO, 3, .inr (.inr (.inr (.inr g))))), (r0, .inl (cI, 511, .inl R0)), (r1, .inl (cI, 511, .inl R1)), (r2, .inl (cI, 511, .inl R2)), (oa, .inl (cJ, 1, .inr (.inl (fun t9 => lI (FO t9)))))] ∧ amb tP sa (va_A [(xo, .inr (2, [.int (nI k), .ref ra, .ref rb, .int (nI rs), .ref sm, .ref hh, .ref ps, .ref pb])), (sm, .inr (1, [.ref so])), (so, .inl (cO, 3, .inr (.inr (.inr (.inr g))))), (r0, .inl (cI, 511, .inl R0)), (r1, .inl (cI, 511, .inl R1)), (r2, .inl (cI, 511, .inl R2)), (oa, .inl (cJ, 1, .inr (.inl (fun t9 => lI (FO t9)))))] sz) U U.heap)) (q_L_rest_1 dC dI xo ra rb sm hh ps pb k rs cI cO so r0 r1 r2 g R0 R1 R2 j oa cJ FO (va_A [(xo, .inr (2, [.int (nI k), .ref ra, .ref rb, .int (nI rs), .ref sm, .ref hh, .ref ps, .ref pb])), (sm, .inr (1, [.ref so])), (so, .inl (cO, 3, .inr (.inr (.inr (.inr g))))), (r0, .inl (cI, 511, .inl R0)), (r1, .inl (cI, 511, .inl R1)), (r2, .inl (cI, 511, .inl R2)), (oa, .inl (cJ, 1, .inr (.inl (fun t9 => lI (FO t9)))))] sz)) 0 0 (va_A [(xo, .inr (2, [.int (nI k), .ref ra, .ref rb, .int (nI rs), .ref sm, .ref hh, .ref ps, .ref pb])), (sm, .inr (1, [.ref so])), (so, .inl (cO, 3, .inr (.inr (.inr (.inr g))))), (r0, .inl (cI, 511, .inl R0)), (r1, .inl (cI, 511, .inl R1)), (r2, .inl (cI, 511, .inl R2)), (oa, .inl (cJ, 1, .inr (.inl (fun t9 => lI (FO t9)))))] sz) := by
  refine va_MetW (cc := cL_rest) (maxL := 5) (ret := (some .int)) (hh := [(0, 10, 13, 13), (0, 10, 17, 19)]) (by decide) rfl ?_
  intro p e s m args below meth c s₁ B hml hv
  obtain ⟨rfl, hsz, hP, hK, hD0, hM⟩ := hv
  have hx := B.exec
  have hb := B.bytes
  have hr := B.returns
  have hts := atoms_spec (ws := wsL_rest) B.pre
  have hown : s.vm.findClass RL = some m.cls := findClass_of_methodNamed B.named
  have hlocks := B.notSynchronized
  have htab := vx_table (x := yL_rest) B (hts (.codeWith yL_rest cL_rest 5 (some .int) [(0, 10, 13, 13), (0, 10, 17, 19)]) List.mem_cons_self)
  subst hsz
  have hD := hD0.self (sz := s.heap.size)
  generalize hAe : va_A [(xo, .inr (2, [.int (nI k), .ref ra, .ref rb, .int (nI rs), .ref sm, .ref hh, .ref ps, .ref pb])), (sm, .inr (1, [.ref so])), (so, .inl (cO, 3, .inr (.inr (.inr (.inr g))))), (r0, .inl (cI, 511, .inl R0)), (r1, .inl (cI, 511, .inl R1)), (r2, .inl (cI, 511, .inl R2)), (oa, .inl (cJ, 1, .inr (.inl (fun t9 => lI (FO t9)))))] s.heap.size = A at hD hM ⊢
  have hA : ∀ q : Nat, s.heap.size ≤ q → A q := fun q h => by rw [← hAe]; exact Or.inr h
  have hS : va_S A s.heap s.heap [] := va_S.rf
  have hP : va_P (dC, dI) vwCl [(xo, .inr (2, [.int (nI k), .ref ra, .ref rb, .int (nI rs), .ref sm, .ref hh, .ref ps, .ref pb])), (sm, .inr (1, [.ref so])), (so, .inl (cO, 3, .inr (.inr (.inr (.inr g))))), (r0, .inl (cI, 511, .inl R0)), (r1, .inl (cI, 511, .inl R1)), (r2, .inl (cI, 511, .inl R2)), (oa, .inl (cJ, 1, .inr (.inl (fun t9 => lI (FO t9)))))] s.heap := hP
  have hl := lv_entry (([.ref xo, .int (nI 1), .int (nI j), .ref oa] : List Value)) (n := 5) (Nat.le_of_ble_eq_true rfl)
  rw [lg_entry_eq]
  generalize (lg_sl (([.ref xo, .int (nI 1), .int (nI j), .ref oa] : List Value)) ++ List.replicate (5 - (lg_sl (([.ref xo, .int (nI 1), .int (nI j), .ref oa] : List Value))).length) Slot.unset).toArray = ls at hl ⊢
  have hl : lv_has ls 5 [(0, .ref xo), (1, .int (nI 1)), (2, .int (nI j)), (3, .ref oa)] := hl
  obtain ⟨H, hHe⟩ : ∃ H : Heap, H = s.heap := ⟨_, rfl⟩
  rw [← hHe] at hP
  have hS : va_S A s.heap H [] := by rw [hHe]; exact hS
  obtain ⟨locs, hlo⟩ : ∃ L : List Loc, L = [] := ⟨_, rfl⟩
  rw [← hlo] at hS ⊢
  rw [← hHe]
  refine lv_aload_n hx hb dL_rest_0 rfl (lv_at hl 3 rfl) ?_
  refine lv_iconst (v := nI 0) hx hb dL_rest_1 (by decide) ?_
  refine lv_aload_n hx hb dL_rest_2 rfl (lv_at hl 0 rfl) ?_
  refine lv_iload_n hx hb dL_rest_3 rfl (lv_at hl 1 rfl) ?_
  refine lv_iload_n hx hb dL_rest_4 rfl (lv_at hl 2 rfl) ?_
  have hPc := hP.sub (ws' := [(xo, .inr (2, [.int (nI k), .ref ra, .ref rb, .int (nI rs), .ref sm, .ref hh, .ref ps, .ref pb])), (sm, .inr (1, [.ref so])), (so, .inl (cO, 3, .inr (.inr (.inr (.inr g))))), (r0, .inl (cI, 511, .inl R0)), (r1, .inl (cI, 511, .inl R1)), (r2, .inl (cI, 511, .inl R2))]) [0, 1, 2, 3, 4, 5] rfl
  have hDc := hD.sub (ws' := [(xo, .inr (2, [.int (nI k), .ref ra, .ref rb, .int (nI rs), .ref sm, .ref hh, .ref ps, .ref pb])), (sm, .inr (1, [.ref so])), (so, .inl (cO, 3, .inr (.inr (.inr (.inr g))))), (r0, .inl (cI, 511, .inl R0)), (r1, .inl (cI, 511, .inl R1)), (r2, .inl (cI, 511, .inl R2))]) [0, 1, 2, 3, 4, 5] (by decide) rfl
  have hKc := hK.sub (tys' := [(cI, .int), (cO, .array .int)]) [0, 1] rfl
  have hFc := va_free (wc := [(xo, .inr (2, [.int (nI k), .ref ra, .ref rb, .int (nI rs), .ref sm, .ref hh, .ref ps, .ref pb])), (sm, .inr (1, [.ref so])), (so, .inl (cO, 3, .inr (.inr (.inr (.inr g))))), (r0, .inl (cI, 511, .inl R0)), (r1, .inl (cI, 511, .inl R1)), (r2, .inl (cI, 511, .inl R2))]) hD hS hA [0, 1, 2, 3, 4, 5] rfl
  refine va_calli (va_runV (As := [.int (nI 1), .int (nI j)]) (rest := [.int (nI 0), .ref oa]) ⟨hx, hb, hml, hown, hts⟩ (c_X3_rest_1 l dC dI xo ra rb sm hh ps pb k rs cI cO so r0 r1 r2 g R0 R1 R2 j H.size tP sa hg0 hg1 hg2 zj zrs) (cwV 2 hts gL_rest_X3_rest rfl rfl rfl (by decide +kernel) ⟨Nat.le_of_ble_eq_true rfl, Nat.le_of_ble_eq_true rfl⟩) ⟨fun a U g mk q => by obtain ⟨q0, q1, qP, qK, qD, qM⟩ := q; exact ⟨q0, q1, qP, va_K.moved (u := U) (U := U.calling g mk a) (Vm.Alike.refl U.vm) qK, qD, amb_same (U := U) (U' := U.calling g mk a) rfl rfl qM⟩, va_recv hKc hPc (ci := 2) (q0 := 0) rfl rfl, fun U hU hW => ⟨rfl, by rw [hU], by rw [hU]; exact hPc, va_K.moved hW.alike hKc, hDc.weaken (fun _ _ _ _ => trivial), amb_pass hM hS hFc hW hU⟩⟩ rfl rfl hl.1 rfl (lv_room (Nat.le_of_ble_eq_true rfl)) dL_rest_5 ⟨Nat.le_of_ble_eq_true rfl, Nat.le_of_ble_eq_true rfl⟩) hS (fun q _ h => hFc q h) hFc (fun r9 u9 t9 H1 locs ht hvm hw hB hz1 hk1 hS => ?_)
  obtain ⟨hP1, hD1⟩ := hB
  rw [ht] at hP1
  try dsimp only at hw
  obtain ⟨hP, hD⟩ := va_join (wr := [(oa, .inl (cJ, 1, .inr (.inl (fun t9 => lI (FO t9)))))]) (w1 := [(xo, .inr (2, [.int (nI k), .ref ra, .ref rb, .int (nI rs), .ref sm, .ref hh, .ref ps, .ref pb])), (sm, .inr (1, [.ref so])), (so, .inl (cO, 3, .inr (.inr (.inr (.inr g))))), (r0, .inl (cI, 511, .inl R0)), (r1, .inl (cI, 511, .inl R1)), (r2, .inl (cI, 511, .inl R2))]) hP hD [0, 1, 2, 3, 4, 5] [6] rfl rfl (by decide) (by decide) hk1 hFc hP1 hD1
  generalize H1 = H at hP hS ⊢
  have hP : va_P (dC, dI) vwCl [(oa, .inl (cJ, 1, .inr (.inl (fun t9 => lI (FO t9))))), (xo, .inr (2, [.int (nI k), .ref ra, .ref rb, .int (nI rs), .ref sm, .ref hh, .ref ps, .ref pb])), (sm, .inr (1, [.ref so])), (so, .inl (cO, 3, .inr (.inr (.inr (.inr g))))), (r0, .inl (cI, 511, .inl R0)), (r1, .inl (cI, 511, .inl R1)), (r2, .inl (cI, 511, .inl R2))] H := hP
  have hD : va_D A [(oa, .inl (cJ, 1, .inr (.inl (fun t9 => lI (FO t9))))), (xo, .inr (2, [.int (nI k), .ref ra, .ref rb, .int (nI rs), .ref sm, .ref hh, .ref ps, .ref pb])), (sm, .inr (1, [.ref so])), (so, .inl (cO, 3, .inr (.inr (.inr (.inr g))))), (r0, .inl (cI, 511, .inl R0)), (r1, .inl (cI, 511, .inl R1)), (r2, .inl (cI, 511, .inl R2))] := hD
  clear hPc hDc hKc hFc hP1 hD1 hk1 hz1 hvm ht
  subst hw
  refine lv_i2l (v := lI ((R1 j).toInt)) hx hb dL_rest_8 (i2l_I (R1 j)) ?_
  refine va_last hx hb hK hP hD hS 0 2 rfl rfl (vp_in_nI (by omega) (by omega)) dL_rest_9 (fun H locs hP hD hS => ?_)
  rw [nI_clamp (show 0 < 2 ^ 31 by omega)] at hP hD
  rw [upI_l] at hP hD
  have hP : va_P (dC, dI) vwCl [(oa, .inl (cJ, 1, .inr (.inl (fun t9 => lI ((upI FO 0 ((R1 j).toInt)) t9))))), (xo, .inr (2, [.int (nI k), .ref ra, .ref rb, .int (nI rs), .ref sm, .ref hh, .ref ps, .ref pb])), (sm, .inr (1, [.ref so])), (so, .inl (cO, 3, .inr (.inr (.inr (.inr g))))), (r0, .inl (cI, 511, .inl R0)), (r1, .inl (cI, 511, .inl R1)), (r2, .inl (cI, 511, .inl R2))] H := hP
  have hD : va_D A [(oa, .inl (cJ, 1, .inr (.inl (fun t9 => lI ((upI FO 0 ((R1 j).toInt)) t9))))), (xo, .inr (2, [.int (nI k), .ref ra, .ref rb, .int (nI rs), .ref sm, .ref hh, .ref ps, .ref pb])), (sm, .inr (1, [.ref so])), (so, .inl (cO, 3, .inr (.inr (.inr (.inr g))))), (r0, .inl (cI, 511, .inl R0)), (r1, .inl (cI, 511, .inl R1)), (r2, .inl (cI, 511, .inl R2))] := hD
  refine lv_goto (tgt := 21) hx hb dL_rest_10 (by decide) ?_
  refine lv_iconst (v := nI 0) hx hb dL_rest_21 (by decide) ?_
  have hP9 : va_P (dC, dI) vwCl [(xo, .inr (2, [.int (nI k), .ref ra, .ref rb, .int (nI rs), .ref sm, .ref hh, .ref ps, .ref pb])), (sm, .inr (1, [.ref so])), (so, .inl (cO, 3, .inr (.inr (.inr (.inr g))))), (r0, .inl (cI, 511, .inl R0)), (r1, .inl (cI, 511, .inl R1)), (r2, .inl (cI, 511, .inl R2)), (oa, .inl (cJ, 1, .inr (.inl (fun t9 => lI ((upI FO 0 ((R1 j).toInt)) t9)))))] H := hP.sub [1, 2, 3, 4, 5, 6, 0] rfl
  have hD9 : va_D A [(xo, .inr (2, [.int (nI k), .ref ra, .ref rb, .int (nI rs), .ref sm, .ref hh, .ref ps, .ref pb])), (sm, .inr (1, [.ref so])), (so, .inl (cO, 3, .inr (.inr (.inr (.inr g))))), (r0, .inl (cI, 511, .inl R0)), (r1, .inl (cI, 511, .inl R1)), (r2, .inl (cI, 511, .inl R2)), (oa, .inl (cJ, 1, .inr (.inl (fun t9 => lI ((upI FO 0 ((R1 j).toInt)) t9)))))] := hD.sub [1, 2, 3, 4, 5, 6, 0] (by decide) rfl
  exact W.iret (v := nI 0) hx hb hr (fun tq9 ht hW => ⟨⟨nI 0, (), rfl, rfl, by rw [ht]; exact hP9, hD9⟩, hS.F ht⟩) hS.2.2 dL_rest_22

abbrev q_L_rest_2 (dC : Nat → ClassId) (dI : Nat → Nat → Nat) (xo ra rb sm hh ps pb k rs : Nat) (cI cO : ClassId) (so r0 r1 r2 : Nat) (g : Nat → Option Nat) (R0 R1 R2 : Nat → Int32) (j : Nat) (oa : Nat) (cJ : ClassId) (FO : Nat → Int) (A : Nat → Prop) : Array Value → State → Outcome → State → Prop := va_Qi (fun (r : Int32) (u : Unit) => r = nI 0) (fun u t => va_P (dC, dI) vwCl [(xo, .inr (2, [.int (nI k), .ref ra, .ref rb, .int (nI rs), .ref sm, .ref hh, .ref ps, .ref pb])), (sm, .inr (1, [.ref so])), (so, .inl (cO, 3, .inr (.inr (.inr (.inr g))))), (r0, .inl (cI, 511, .inl R0)), (r1, .inl (cI, 511, .inl R1)), (r2, .inl (cI, 511, .inl R2)), (oa, .inl (cJ, 1, .inr (.inl (fun t9 => lI ((upI FO 0 ((R2 j).toInt)) t9)))))] t.heap ∧ va_D A [(xo, .inr (2, [.int (nI k), .ref ra, .ref rb, .int (nI rs), .ref sm, .ref hh, .ref ps, .ref pb])), (sm, .inr (1, [.ref so])), (so, .inl (cO, 3, .inr (.inr (.inr (.inr g))))), (r0, .inl (cI, 511, .inl R0)), (r1, .inl (cI, 511, .inl R1)), (r2, .inl (cI, 511, .inl R2)), (oa, .inl (cJ, 1, .inr (.inl (fun t9 => lI ((upI FO 0 ((R2 j).toInt)) t9)))))]) A
set_option maxHeartbeats 4000000 in
set_option maxRecDepth 100000 in
theorem c_L_rest_2 (l : Launch) (dC : Nat → ClassId) (dI : Nat → Nat → Nat) (xo ra rb sm hh ps pb k rs : Nat) (cI cO : ClassId) (so r0 r1 r2 : Nat) (g : Nat → Option Nat) (R0 R1 R2 : Nat → Int32) (j : Nat) (oa : Nat) (cJ : ClassId) (FO : Nat → Int) (sz : Nat) (tP : Nat) (sa : Nat → Nat) (hg0 : g 0 = some r0) (hg1 : g 1 = some r1) (hg2 : g 2 = some r2) (zj : j < rs) (zrs : rs ≤ 511) : Met l yL_rest wsL_rest ({ frames := 2, cells := 0, slots := 0, locals := 44 }) (va_Pc [.ref xo, .int (nI 2), .int (nI j), .ref oa] (fun U => U.heap.size = sz ∧ va_P (dC, dI) vwCl [(xo, .inr (2, [.int (nI k), .ref ra, .ref rb, .int (nI rs), .ref sm, .ref hh, .ref ps, .ref pb])), (sm, .inr (1, [.ref so])), (so, .inl (cO, 3, .inr (.inr (.inr (.inr g))))), (r0, .inl (cI, 511, .inl R0)), (r1, .inl (cI, 511, .inl R1)), (r2, .inl (cI, 511, .inl R2)), (oa, .inl (cJ, 1, .inr (.inl (fun t9 => lI (FO t9)))))] U.heap ∧ va_K (dC, dI) vwCl [(cI, .int), (cO, .array .int), (cJ, .long)] U ∧ va_D (fun _ => True) [(xo, .inr (2, [.int (nI k), .ref ra, .ref rb, .int (nI rs), .ref sm, .ref hh, .ref ps, .ref pb])), (sm, .inr (1, [.ref so])), (so, .inl (cO, 3, .inr (.inr (.inr (.inr g))))), (r0, .inl (cI, 511, .inl R0)), (r1, .inl (cI, 511, .inl R1)), (r2, .inl (cI, 511, .inl R2)), (oa, .inl (cJ, 1, .inr (.inl (fun t9 => lI (FO t9)))))] ∧ amb tP sa (va_A [(xo, .inr (2, [.int (nI k), .ref ra, .ref rb, .int (nI rs), .ref sm, .ref hh, .ref ps, .ref pb])), (sm, .inr (1, [.ref so])), (so, .inl (cO, 3, .inr (.inr (.inr (.inr g))))), (r0, .inl (cI, 511, .inl R0)), (r1, .inl (cI, 511, .inl R1)), (r2, .inl (cI, 511, .inl R2)), (oa, .inl (cJ, 1, .inr (.inl (fun t9 => lI (FO t9)))))] sz) U U.heap)) (q_L_rest_2 dC dI xo ra rb sm hh ps pb k rs cI cO so r0 r1 r2 g R0 R1 R2 j oa cJ FO (va_A [(xo, .inr (2, [.int (nI k), .ref ra, .ref rb, .int (nI rs), .ref sm, .ref hh, .ref ps, .ref pb])), (sm, .inr (1, [.ref so])), (so, .inl (cO, 3, .inr (.inr (.inr (.inr g))))), (r0, .inl (cI, 511, .inl R0)), (r1, .inl (cI, 511, .inl R1)), (r2, .inl (cI, 511, .inl R2)), (oa, .inl (cJ, 1, .inr (.inl (fun t9 => lI (FO t9)))))] sz)) 0 0 (va_A [(xo, .inr (2, [.int (nI k), .ref ra, .ref rb, .int (nI rs), .ref sm, .ref hh, .ref ps, .ref pb])), (sm, .inr (1, [.ref so])), (so, .inl (cO, 3, .inr (.inr (.inr (.inr g))))), (r0, .inl (cI, 511, .inl R0)), (r1, .inl (cI, 511, .inl R1)), (r2, .inl (cI, 511, .inl R2)), (oa, .inl (cJ, 1, .inr (.inl (fun t9 => lI (FO t9)))))] sz) := by
  refine va_MetW (cc := cL_rest) (maxL := 5) (ret := (some .int)) (hh := [(0, 10, 13, 13), (0, 10, 17, 19)]) (by decide) rfl ?_
  intro p e s m args below meth c s₁ B hml hv
  obtain ⟨rfl, hsz, hP, hK, hD0, hM⟩ := hv
  have hx := B.exec
  have hb := B.bytes
  have hr := B.returns
  have hts := atoms_spec (ws := wsL_rest) B.pre
  have hown : s.vm.findClass RL = some m.cls := findClass_of_methodNamed B.named
  have hlocks := B.notSynchronized
  have htab := vx_table (x := yL_rest) B (hts (.codeWith yL_rest cL_rest 5 (some .int) [(0, 10, 13, 13), (0, 10, 17, 19)]) List.mem_cons_self)
  subst hsz
  have hD := hD0.self (sz := s.heap.size)
  generalize hAe : va_A [(xo, .inr (2, [.int (nI k), .ref ra, .ref rb, .int (nI rs), .ref sm, .ref hh, .ref ps, .ref pb])), (sm, .inr (1, [.ref so])), (so, .inl (cO, 3, .inr (.inr (.inr (.inr g))))), (r0, .inl (cI, 511, .inl R0)), (r1, .inl (cI, 511, .inl R1)), (r2, .inl (cI, 511, .inl R2)), (oa, .inl (cJ, 1, .inr (.inl (fun t9 => lI (FO t9)))))] s.heap.size = A at hD hM ⊢
  have hA : ∀ q : Nat, s.heap.size ≤ q → A q := fun q h => by rw [← hAe]; exact Or.inr h
  have hS : va_S A s.heap s.heap [] := va_S.rf
  have hP : va_P (dC, dI) vwCl [(xo, .inr (2, [.int (nI k), .ref ra, .ref rb, .int (nI rs), .ref sm, .ref hh, .ref ps, .ref pb])), (sm, .inr (1, [.ref so])), (so, .inl (cO, 3, .inr (.inr (.inr (.inr g))))), (r0, .inl (cI, 511, .inl R0)), (r1, .inl (cI, 511, .inl R1)), (r2, .inl (cI, 511, .inl R2)), (oa, .inl (cJ, 1, .inr (.inl (fun t9 => lI (FO t9)))))] s.heap := hP
  have hl := lv_entry (([.ref xo, .int (nI 2), .int (nI j), .ref oa] : List Value)) (n := 5) (Nat.le_of_ble_eq_true rfl)
  rw [lg_entry_eq]
  generalize (lg_sl (([.ref xo, .int (nI 2), .int (nI j), .ref oa] : List Value)) ++ List.replicate (5 - (lg_sl (([.ref xo, .int (nI 2), .int (nI j), .ref oa] : List Value))).length) Slot.unset).toArray = ls at hl ⊢
  have hl : lv_has ls 5 [(0, .ref xo), (1, .int (nI 2)), (2, .int (nI j)), (3, .ref oa)] := hl
  obtain ⟨H, hHe⟩ : ∃ H : Heap, H = s.heap := ⟨_, rfl⟩
  rw [← hHe] at hP
  have hS : va_S A s.heap H [] := by rw [hHe]; exact hS
  obtain ⟨locs, hlo⟩ : ∃ L : List Loc, L = [] := ⟨_, rfl⟩
  rw [← hlo] at hS ⊢
  rw [← hHe]
  refine lv_aload_n hx hb dL_rest_0 rfl (lv_at hl 3 rfl) ?_
  refine lv_iconst (v := nI 0) hx hb dL_rest_1 (by decide) ?_
  refine lv_aload_n hx hb dL_rest_2 rfl (lv_at hl 0 rfl) ?_
  refine lv_iload_n hx hb dL_rest_3 rfl (lv_at hl 1 rfl) ?_
  refine lv_iload_n hx hb dL_rest_4 rfl (lv_at hl 2 rfl) ?_
  have hPc := hP.sub (ws' := [(xo, .inr (2, [.int (nI k), .ref ra, .ref rb, .int (nI rs), .ref sm, .ref hh, .ref ps, .ref pb])), (sm, .inr (1, [.ref so])), (so, .inl (cO, 3, .inr (.inr (.inr (.inr g))))), (r0, .inl (cI, 511, .inl R0)), (r1, .inl (cI, 511, .inl R1)), (r2, .inl (cI, 511, .inl R2))]) [0, 1, 2, 3, 4, 5] rfl
  have hDc := hD.sub (ws' := [(xo, .inr (2, [.int (nI k), .ref ra, .ref rb, .int (nI rs), .ref sm, .ref hh, .ref ps, .ref pb])), (sm, .inr (1, [.ref so])), (so, .inl (cO, 3, .inr (.inr (.inr (.inr g))))), (r0, .inl (cI, 511, .inl R0)), (r1, .inl (cI, 511, .inl R1)), (r2, .inl (cI, 511, .inl R2))]) [0, 1, 2, 3, 4, 5] (by decide) rfl
  have hKc := hK.sub (tys' := [(cI, .int), (cO, .array .int)]) [0, 1] rfl
  have hFc := va_free (wc := [(xo, .inr (2, [.int (nI k), .ref ra, .ref rb, .int (nI rs), .ref sm, .ref hh, .ref ps, .ref pb])), (sm, .inr (1, [.ref so])), (so, .inl (cO, 3, .inr (.inr (.inr (.inr g))))), (r0, .inl (cI, 511, .inl R0)), (r1, .inl (cI, 511, .inl R1)), (r2, .inl (cI, 511, .inl R2))]) hD hS hA [0, 1, 2, 3, 4, 5] rfl
  refine va_calli (va_runV (As := [.int (nI 2), .int (nI j)]) (rest := [.int (nI 0), .ref oa]) ⟨hx, hb, hml, hown, hts⟩ (c_X3_rest_2 l dC dI xo ra rb sm hh ps pb k rs cI cO so r0 r1 r2 g R0 R1 R2 j H.size tP sa hg0 hg1 hg2 zj zrs) (cwV 2 hts gL_rest_X3_rest rfl rfl rfl (by decide +kernel) ⟨Nat.le_of_ble_eq_true rfl, Nat.le_of_ble_eq_true rfl⟩) ⟨fun a U g mk q => by obtain ⟨q0, q1, qP, qK, qD, qM⟩ := q; exact ⟨q0, q1, qP, va_K.moved (u := U) (U := U.calling g mk a) (Vm.Alike.refl U.vm) qK, qD, amb_same (U := U) (U' := U.calling g mk a) rfl rfl qM⟩, va_recv hKc hPc (ci := 2) (q0 := 0) rfl rfl, fun U hU hW => ⟨rfl, by rw [hU], by rw [hU]; exact hPc, va_K.moved hW.alike hKc, hDc.weaken (fun _ _ _ _ => trivial), amb_pass hM hS hFc hW hU⟩⟩ rfl rfl hl.1 rfl (lv_room (Nat.le_of_ble_eq_true rfl)) dL_rest_5 ⟨Nat.le_of_ble_eq_true rfl, Nat.le_of_ble_eq_true rfl⟩) hS (fun q _ h => hFc q h) hFc (fun r9 u9 t9 H1 locs ht hvm hw hB hz1 hk1 hS => ?_)
  obtain ⟨hP1, hD1⟩ := hB
  rw [ht] at hP1
  try dsimp only at hw
  obtain ⟨hP, hD⟩ := va_join (wr := [(oa, .inl (cJ, 1, .inr (.inl (fun t9 => lI (FO t9)))))]) (w1 := [(xo, .inr (2, [.int (nI k), .ref ra, .ref rb, .int (nI rs), .ref sm, .ref hh, .ref ps, .ref pb])), (sm, .inr (1, [.ref so])), (so, .inl (cO, 3, .inr (.inr (.inr (.inr g))))), (r0, .inl (cI, 511, .inl R0)), (r1, .inl (cI, 511, .inl R1)), (r2, .inl (cI, 511, .inl R2))]) hP hD [0, 1, 2, 3, 4, 5] [6] rfl rfl (by decide) (by decide) hk1 hFc hP1 hD1
  generalize H1 = H at hP hS ⊢
  have hP : va_P (dC, dI) vwCl [(oa, .inl (cJ, 1, .inr (.inl (fun t9 => lI (FO t9))))), (xo, .inr (2, [.int (nI k), .ref ra, .ref rb, .int (nI rs), .ref sm, .ref hh, .ref ps, .ref pb])), (sm, .inr (1, [.ref so])), (so, .inl (cO, 3, .inr (.inr (.inr (.inr g))))), (r0, .inl (cI, 511, .inl R0)), (r1, .inl (cI, 511, .inl R1)), (r2, .inl (cI, 511, .inl R2))] H := hP
  have hD : va_D A [(oa, .inl (cJ, 1, .inr (.inl (fun t9 => lI (FO t9))))), (xo, .inr (2, [.int (nI k), .ref ra, .ref rb, .int (nI rs), .ref sm, .ref hh, .ref ps, .ref pb])), (sm, .inr (1, [.ref so])), (so, .inl (cO, 3, .inr (.inr (.inr (.inr g))))), (r0, .inl (cI, 511, .inl R0)), (r1, .inl (cI, 511, .inl R1)), (r2, .inl (cI, 511, .inl R2))] := hD
  clear hPc hDc hKc hFc hP1 hD1 hk1 hz1 hvm ht
  subst hw
  refine lv_i2l (v := lI ((R2 j).toInt)) hx hb dL_rest_8 (i2l_I (R2 j)) ?_
  refine va_last hx hb hK hP hD hS 0 2 rfl rfl (vp_in_nI (by omega) (by omega)) dL_rest_9 (fun H locs hP hD hS => ?_)
  rw [nI_clamp (show 0 < 2 ^ 31 by omega)] at hP hD
  rw [upI_l] at hP hD
  have hP : va_P (dC, dI) vwCl [(oa, .inl (cJ, 1, .inr (.inl (fun t9 => lI ((upI FO 0 ((R2 j).toInt)) t9))))), (xo, .inr (2, [.int (nI k), .ref ra, .ref rb, .int (nI rs), .ref sm, .ref hh, .ref ps, .ref pb])), (sm, .inr (1, [.ref so])), (so, .inl (cO, 3, .inr (.inr (.inr (.inr g))))), (r0, .inl (cI, 511, .inl R0)), (r1, .inl (cI, 511, .inl R1)), (r2, .inl (cI, 511, .inl R2))] H := hP
  have hD : va_D A [(oa, .inl (cJ, 1, .inr (.inl (fun t9 => lI ((upI FO 0 ((R2 j).toInt)) t9))))), (xo, .inr (2, [.int (nI k), .ref ra, .ref rb, .int (nI rs), .ref sm, .ref hh, .ref ps, .ref pb])), (sm, .inr (1, [.ref so])), (so, .inl (cO, 3, .inr (.inr (.inr (.inr g))))), (r0, .inl (cI, 511, .inl R0)), (r1, .inl (cI, 511, .inl R1)), (r2, .inl (cI, 511, .inl R2))] := hD
  refine lv_goto (tgt := 21) hx hb dL_rest_10 (by decide) ?_
  refine lv_iconst (v := nI 0) hx hb dL_rest_21 (by decide) ?_
  have hP9 : va_P (dC, dI) vwCl [(xo, .inr (2, [.int (nI k), .ref ra, .ref rb, .int (nI rs), .ref sm, .ref hh, .ref ps, .ref pb])), (sm, .inr (1, [.ref so])), (so, .inl (cO, 3, .inr (.inr (.inr (.inr g))))), (r0, .inl (cI, 511, .inl R0)), (r1, .inl (cI, 511, .inl R1)), (r2, .inl (cI, 511, .inl R2)), (oa, .inl (cJ, 1, .inr (.inl (fun t9 => lI ((upI FO 0 ((R2 j).toInt)) t9)))))] H := hP.sub [1, 2, 3, 4, 5, 6, 0] rfl
  have hD9 : va_D A [(xo, .inr (2, [.int (nI k), .ref ra, .ref rb, .int (nI rs), .ref sm, .ref hh, .ref ps, .ref pb])), (sm, .inr (1, [.ref so])), (so, .inl (cO, 3, .inr (.inr (.inr (.inr g))))), (r0, .inl (cI, 511, .inl R0)), (r1, .inl (cI, 511, .inl R1)), (r2, .inl (cI, 511, .inl R2)), (oa, .inl (cJ, 1, .inr (.inl (fun t9 => lI ((upI FO 0 ((R2 j).toInt)) t9)))))] := hD.sub [1, 2, 3, 4, 5, 6, 0] (by decide) rfl
  exact W.iret (v := nI 0) hx hb hr (fun tq9 ht hW => ⟨⟨nI 0, (), rfl, rfl, by rw [ht]; exact hP9, hD9⟩, hS.F ht⟩) hS.2.2 dL_rest_22

abbrev q_L_rest_badP (dC : Nat → ClassId) (dI : Nat → Nat → Nat) (xo ra rb sm hh ps pb k rs : Nat) (i v : Int32) (oa : Nat) (A : Nat → Prop) : Array Value → State → Outcome → State → Prop := va_Qi (fun (r : Int32) (u : Unit) => r = nI 1) (fun u t => va_P (dC, dI) vwCl [(xo, .inr (2, [.int (nI k), .ref ra, .ref rb, .int (nI rs), .ref sm, .ref hh, .ref ps, .ref pb]))] t.heap ∧ va_D A [(xo, .inr (2, [.int (nI k), .ref ra, .ref rb, .int (nI rs), .ref sm, .ref hh, .ref ps, .ref pb]))]) A
set_option maxHeartbeats 4000000 in
set_option maxRecDepth 100000 in
theorem c_L_rest_badP (l : Launch) (dC : Nat → ClassId) (dI : Nat → Nat → Nat) (xo ra rb sm hh ps pb k rs : Nat) (i v : Int32) (oa : Nat) (sz : Nat) (tP : Nat) (sa : Nat → Nat) (hl9 : l.stackTraces = false) (hbad : i < 0 ∨ nI 3 ≤ i) : Met l yL_rest wsL_rest ({ frames := 8, cells := 1, slots := 6, locals := 125 }) (va_Pc [.ref xo, .int i, .int v, .ref oa] (fun U => U.heap.size = sz ∧ va_P (dC, dI) vwCl [(xo, .inr (2, [.int (nI k), .ref ra, .ref rb, .int (nI rs), .ref sm, .ref hh, .ref ps, .ref pb]))] U.heap ∧ va_K (dC, dI) vwCl [] U ∧ va_D (fun _ => True) [(xo, .inr (2, [.int (nI k), .ref ra, .ref rb, .int (nI rs), .ref sm, .ref hh, .ref ps, .ref pb]))] ∧ amb tP sa (va_A [(xo, .inr (2, [.int (nI k), .ref ra, .ref rb, .int (nI rs), .ref sm, .ref hh, .ref ps, .ref pb]))] sz) U U.heap)) (q_L_rest_badP dC dI xo ra rb sm hh ps pb k rs i v oa (va_A [(xo, .inr (2, [.int (nI k), .ref ra, .ref rb, .int (nI rs), .ref sm, .ref hh, .ref ps, .ref pb]))] sz)) 1 6 (va_A [(xo, .inr (2, [.int (nI k), .ref ra, .ref rb, .int (nI rs), .ref sm, .ref hh, .ref ps, .ref pb]))] sz) := by
  refine va_MetW (cc := cL_rest) (maxL := 5) (ret := (some .int)) (hh := [(0, 10, 13, 13), (0, 10, 17, 19)]) (by decide) rfl ?_
  intro p e s m args below meth c s₁ B hml hv
  obtain ⟨rfl, hsz, hP, hK, hD0, hM⟩ := hv
  have hx := B.exec
  have hb := B.bytes
  have hr := B.returns
  have hts := atoms_spec (ws := wsL_rest) B.pre
  have hown : s.vm.findClass RL = some m.cls := findClass_of_methodNamed B.named
  have hlocks := B.notSynchronized
  have htab := vx_table (x := yL_rest) B (hts (.codeWith yL_rest cL_rest 5 (some .int) [(0, 10, 13, 13), (0, 10, 17, 19)]) List.mem_cons_self)
  subst hsz
  have hD := hD0.self (sz := s.heap.size)
  generalize hAe : va_A [(xo, .inr (2, [.int (nI k), .ref ra, .ref rb, .int (nI rs), .ref sm, .ref hh, .ref ps, .ref pb]))] s.heap.size = A at hD hM ⊢
  have hA : ∀ q : Nat, s.heap.size ≤ q → A q := fun q h => by rw [← hAe]; exact Or.inr h
  have hS : va_S A s.heap s.heap [] := va_S.rf
  have hP : va_P (dC, dI) vwCl [(xo, .inr (2, [.int (nI k), .ref ra, .ref rb, .int (nI rs), .ref sm, .ref hh, .ref ps, .ref pb]))] s.heap := hP
  have hl := lv_entry (([.ref xo, .int i, .int v, .ref oa] : List Value)) (n := 5) (Nat.le_of_ble_eq_true rfl)
  rw [lg_entry_eq]
  generalize (lg_sl (([.ref xo, .int i, .int v, .ref oa] : List Value)) ++ List.replicate (5 - (lg_sl (([.ref xo, .int i, .int v, .ref oa] : List Value))).length) Slot.unset).toArray = ls at hl ⊢
  have hl : lv_has ls 5 [(0, .ref xo), (1, .int i), (2, .int v), (3, .ref oa)] := hl
  obtain ⟨H, hHe⟩ : ∃ H : Heap, H = s.heap := ⟨_, rfl⟩
  rw [← hHe] at hP
  have hS : va_S A s.heap H [] := by rw [hHe]; exact hS
  obtain ⟨locs, hlo⟩ : ∃ L : List Loc, L = [] := ⟨_, rfl⟩
  rw [← hlo] at hS ⊢
  rw [← hHe]
  refine lv_aload_n hx hb dL_rest_0 rfl (lv_at hl 3 rfl) ?_
  refine lv_iconst (v := nI 0) hx hb dL_rest_1 (by decide) ?_
  refine lv_aload_n hx hb dL_rest_2 rfl (lv_at hl 0 rfl) ?_
  refine lv_iload_n hx hb dL_rest_3 rfl (lv_at hl 1 rfl) ?_
  refine lv_iload_n hx hb dL_rest_4 rfl (lv_at hl 2 rfl) ?_
  have hPc := hP.sub (ws' := [(xo, .inr (2, [.int (nI k), .ref ra, .ref rb, .int (nI rs), .ref sm, .ref hh, .ref ps, .ref pb]))]) [0] rfl
  have hDc := hD.sub (ws' := [(xo, .inr (2, [.int (nI k), .ref ra, .ref rb, .int (nI rs), .ref sm, .ref hh, .ref ps, .ref pb]))]) [0] (by decide) rfl
  have hKc := hK.sub (tys' := []) [] rfl
  have hFc := va_free (wc := [(xo, .inr (2, [.int (nI k), .ref ra, .ref rb, .int (nI rs), .ref sm, .ref hh, .ref ps, .ref pb]))]) hD hS hA [0] rfl
  refine vx_calli (vx_runV (As := [.int i, .int v]) (rest := [.int (nI 0), .ref oa]) ⟨hx, hb, hml, hown, hts⟩ (c_X3_rest_badP l dC dI xo ra rb sm hh ps pb k rs i v H.size hl9 tP sa hbad) (cwV 2 hts gL_rest_X3_rest rfl rfl rfl (by decide +kernel) ⟨Nat.le_of_ble_eq_true rfl, Nat.le_of_ble_eq_true rfl⟩) ⟨fun a U g mk q => by obtain ⟨q0, q1, qP, qK, qD, qM⟩ := q; exact ⟨q0, q1, qP, va_K.moved (u := U) (U := U.calling g mk a) (Vm.Alike.refl U.vm) qK, qD, amb_same (U := U) (U' := U.calling g mk a) rfl rfl qM⟩, va_recv hKc hPc (ci := 2) (q0 := 0) rfl rfl, fun U hU hW => ⟨rfl, by rw [hU], by rw [hU]; exact hPc, va_K.moved hW.alike hKc, hDc.weaken (fun _ _ _ _ => trivial), amb_pass hM hS hFc hW hU⟩⟩ rfl rfl hl.1 rfl (lv_room (Nat.le_of_ble_eq_true rfl)) dL_rest_5 ⟨Nat.le_of_ble_eq_true rfl, Nat.le_of_ble_eq_true rfl⟩) hS (fun q _ h => hFc q h) hFc (fun q _ h => hFc q h) (fun E9 ce9 q9 u9 t9 H1 locs ht hvm hw hB hz1 hk1 hS hce hcv hcl => ?_) (fun r9 u9 t9 H1 locs ht hvm hw hB hz1 hk1 hS => ?_)
  · obtain ⟨hxp, hP1, hD1⟩ := hB
    rw [ht] at hP1
    obtain ⟨hP, hD⟩ := va_join (wr := []) (w1 := [(xo, .inr (2, [.int (nI k), .ref ra, .ref rb, .int (nI rs), .ref sm, .ref hh, .ref ps, .ref pb]))]) hP hD [0] [] rfl rfl (by decide) (by decide) hk1 hFc hP1 hD1
    subst hxp
    refine vx_catch (own := RL) (name := "java/lang/IllegalArgumentException") hown [] ⟨0, 10, 13, 13⟩ [⟨0, 10, 17, 19⟩] (htab.trans rfl) (fun z hz => (List.not_mem_nil hz).elim) (by decide) (by decide) (hts (.classLink RL 13 "java/lang/IllegalArgumentException") (by decide +kernel)) (va_tabs rfl rfl (hM.2.2.1 (.castable "java/lang/IllegalArgumentException" "java/lang/IllegalArgumentException") (by decide +kernel))) hce hcv hcl ?_
    clear hce
    generalize H1 = H at hP hS ⊢
    have hP : va_P (dC, dI) vwCl [(xo, .inr (2, [.int (nI k), .ref ra, .ref rb, .int (nI rs), .ref sm, .ref hh, .ref ps, .ref pb]))] H := hP
    have hD : va_D A [(xo, .inr (2, [.int (nI k), .ref ra, .ref rb, .int (nI rs), .ref sm, .ref hh, .ref ps, .ref pb]))] := hD
    refine W.widen (k := 1) (n := 6) (by omega) (by omega) ?_
    refine W.eq (g2 := F0 m 13 ls [.ref q9]) rfl ?_
    refine lv_astore (lv' := [(4, .ref q9), (0, .ref xo), (1, .int i), (2, .int v), (3, .ref oa)]) hx hb dL_rest_13 hl (by decide) rfl (fun ls hl => ?_)
    refine lv_iconst (v := nI 1) hx hb dL_rest_15 (by decide) ?_
    have hP9 : va_P (dC, dI) vwCl [(xo, .inr (2, [.int (nI k), .ref ra, .ref rb, .int (nI rs), .ref sm, .ref hh, .ref ps, .ref pb]))] H := hP.sub [0] rfl
    have hD9 : va_D A [(xo, .inr (2, [.int (nI k), .ref ra, .ref rb, .int (nI rs), .ref sm, .ref hh, .ref ps, .ref pb]))] := hD.sub [0] (by decide) rfl
    exact W.iret (v := nI 1) hx hb hr (fun tq9 ht hW => ⟨⟨nI 1, (), rfl, rfl, by rw [ht]; exact hP9, hD9⟩, hS.F ht⟩) hS.2.2 dL_rest_16
  exact hw.elim

abbrev q_L_rest_badI (dC : Nat → ClassId) (dI : Nat → Nat → Nat) (xo ra rb sm hh ps pb k rs : Nat) (q : Nat) (i : Int32) (oa : Nat) (A : Nat → Prop) : Array Value → State → Outcome → State → Prop := va_Qi (fun (r : Int32) (u : Unit) => r = nI 2) (fun u t => va_P (dC, dI) vwCl [(xo, .inr (2, [.int (nI k), .ref ra, .ref rb, .int (nI rs), .ref sm, .ref hh, .ref ps, .ref pb]))] t.heap ∧ va_D A [(xo, .inr (2, [.int (nI k), .ref ra, .ref rb, .int (nI rs), .ref sm, .ref hh, .ref ps, .ref pb]))]) A
set_option maxHeartbeats 4000000 in
set_option maxRecDepth 100000 in
theorem c_L_rest_badI (l : Launch) (dC : Nat → ClassId) (dI : Nat → Nat → Nat) (xo ra rb sm hh ps pb k rs : Nat) (q : Nat) (i : Int32) (oa : Nat) (sz : Nat) (tP : Nat) (sa : Nat → Nat) (hl9 : l.stackTraces = false) (zq : q < 3) (hbad : i < 0 ∨ nI rs ≤ i) : Met l yL_rest wsL_rest ({ frames := 8, cells := 1, slots := 6, locals := 125 }) (va_Pc [.ref xo, .int (nI q), .int i, .ref oa] (fun U => U.heap.size = sz ∧ va_P (dC, dI) vwCl [(xo, .inr (2, [.int (nI k), .ref ra, .ref rb, .int (nI rs), .ref sm, .ref hh, .ref ps, .ref pb]))] U.heap ∧ va_K (dC, dI) vwCl [] U ∧ va_D (fun _ => True) [(xo, .inr (2, [.int (nI k), .ref ra, .ref rb, .int (nI rs), .ref sm, .ref hh, .ref ps, .ref pb]))] ∧ amb tP sa (va_A [(xo, .inr (2, [.int (nI k), .ref ra, .ref rb, .int (nI rs), .ref sm, .ref hh, .ref ps, .ref pb]))] sz) U U.heap)) (q_L_rest_badI dC dI xo ra rb sm hh ps pb k rs q i oa (va_A [(xo, .inr (2, [.int (nI k), .ref ra, .ref rb, .int (nI rs), .ref sm, .ref hh, .ref ps, .ref pb]))] sz)) 1 6 (va_A [(xo, .inr (2, [.int (nI k), .ref ra, .ref rb, .int (nI rs), .ref sm, .ref hh, .ref ps, .ref pb]))] sz) := by
  refine va_MetW (cc := cL_rest) (maxL := 5) (ret := (some .int)) (hh := [(0, 10, 13, 13), (0, 10, 17, 19)]) (by decide) rfl ?_
  intro p e s m args below meth c s₁ B hml hv
  obtain ⟨rfl, hsz, hP, hK, hD0, hM⟩ := hv
  have hx := B.exec
  have hb := B.bytes
  have hr := B.returns
  have hts := atoms_spec (ws := wsL_rest) B.pre
  have hown : s.vm.findClass RL = some m.cls := findClass_of_methodNamed B.named
  have hlocks := B.notSynchronized
  have htab := vx_table (x := yL_rest) B (hts (.codeWith yL_rest cL_rest 5 (some .int) [(0, 10, 13, 13), (0, 10, 17, 19)]) List.mem_cons_self)
  subst hsz
  have hD := hD0.self (sz := s.heap.size)
  generalize hAe : va_A [(xo, .inr (2, [.int (nI k), .ref ra, .ref rb, .int (nI rs), .ref sm, .ref hh, .ref ps, .ref pb]))] s.heap.size = A at hD hM ⊢
  have hA : ∀ q : Nat, s.heap.size ≤ q → A q := fun q h => by rw [← hAe]; exact Or.inr h
  have hS : va_S A s.heap s.heap [] := va_S.rf
  have hP : va_P (dC, dI) vwCl [(xo, .inr (2, [.int (nI k), .ref ra, .ref rb, .int (nI rs), .ref sm, .ref hh, .ref ps, .ref pb]))] s.heap := hP
  have hl := lv_entry (([.ref xo, .int (nI q), .int i, .ref oa] : List Value)) (n := 5) (Nat.le_of_ble_eq_true rfl)
  rw [lg_entry_eq]
  generalize (lg_sl (([.ref xo, .int (nI q), .int i, .ref oa] : List Value)) ++ List.replicate (5 - (lg_sl (([.ref xo, .int (nI q), .int i, .ref oa] : List Value))).length) Slot.unset).toArray = ls at hl ⊢
  have hl : lv_has ls 5 [(0, .ref xo), (1, .int (nI q)), (2, .int i), (3, .ref oa)] := hl
  obtain ⟨H, hHe⟩ : ∃ H : Heap, H = s.heap := ⟨_, rfl⟩
  rw [← hHe] at hP
  have hS : va_S A s.heap H [] := by rw [hHe]; exact hS
  obtain ⟨locs, hlo⟩ : ∃ L : List Loc, L = [] := ⟨_, rfl⟩
  rw [← hlo] at hS ⊢
  rw [← hHe]
  refine lv_aload_n hx hb dL_rest_0 rfl (lv_at hl 3 rfl) ?_
  refine lv_iconst (v := nI 0) hx hb dL_rest_1 (by decide) ?_
  refine lv_aload_n hx hb dL_rest_2 rfl (lv_at hl 0 rfl) ?_
  refine lv_iload_n hx hb dL_rest_3 rfl (lv_at hl 1 rfl) ?_
  refine lv_iload_n hx hb dL_rest_4 rfl (lv_at hl 2 rfl) ?_
  have hPc := hP.sub (ws' := [(xo, .inr (2, [.int (nI k), .ref ra, .ref rb, .int (nI rs), .ref sm, .ref hh, .ref ps, .ref pb]))]) [0] rfl
  have hDc := hD.sub (ws' := [(xo, .inr (2, [.int (nI k), .ref ra, .ref rb, .int (nI rs), .ref sm, .ref hh, .ref ps, .ref pb]))]) [0] (by decide) rfl
  have hKc := hK.sub (tys' := []) [] rfl
  have hFc := va_free (wc := [(xo, .inr (2, [.int (nI k), .ref ra, .ref rb, .int (nI rs), .ref sm, .ref hh, .ref ps, .ref pb]))]) hD hS hA [0] rfl
  refine vx_calli (vx_runV (As := [.int (nI q), .int i]) (rest := [.int (nI 0), .ref oa]) ⟨hx, hb, hml, hown, hts⟩ (c_X3_rest_badI l dC dI xo ra rb sm hh ps pb k rs q i H.size hl9 tP sa zq hbad) (cwV 2 hts gL_rest_X3_rest rfl rfl rfl (by decide +kernel) ⟨Nat.le_of_ble_eq_true rfl, Nat.le_of_ble_eq_true rfl⟩) ⟨fun a U g mk q => by obtain ⟨q0, q1, qP, qK, qD, qM⟩ := q; exact ⟨q0, q1, qP, va_K.moved (u := U) (U := U.calling g mk a) (Vm.Alike.refl U.vm) qK, qD, amb_same (U := U) (U' := U.calling g mk a) rfl rfl qM⟩, va_recv hKc hPc (ci := 2) (q0 := 0) rfl rfl, fun U hU hW => ⟨rfl, by rw [hU], by rw [hU]; exact hPc, va_K.moved hW.alike hKc, hDc.weaken (fun _ _ _ _ => trivial), amb_pass hM hS hFc hW hU⟩⟩ rfl rfl hl.1 rfl (lv_room (Nat.le_of_ble_eq_true rfl)) dL_rest_5 ⟨Nat.le_of_ble_eq_true rfl, Nat.le_of_ble_eq_true rfl⟩) hS (fun q _ h => hFc q h) hFc (fun q _ h => hFc q h) (fun E9 ce9 q9 u9 t9 H1 locs ht hvm hw hB hz1 hk1 hS hce hcv hcl => ?_) (fun r9 u9 t9 H1 locs ht hvm hw hB hz1 hk1 hS => ?_)
  · obtain ⟨hxp, hP1, hD1⟩ := hB
    rw [ht] at hP1
    obtain ⟨hP, hD⟩ := va_join (wr := []) (w1 := [(xo, .inr (2, [.int (nI k), .ref ra, .ref rb, .int (nI rs), .ref sm, .ref hh, .ref ps, .ref pb]))]) hP hD [0] [] rfl rfl (by decide) (by decide) hk1 hFc hP1 hD1
    subst hxp
    refine vx_catch (own := RL) (name := "java/lang/IndexOutOfBoundsException") hown [⟨0, 10, 13, 13⟩] ⟨0, 10, 17, 19⟩ [] (htab.trans rfl) (fun z hz => by cases List.mem_singleton.mp hz; exact Or.inr ⟨by decide, _, hts (.classLink RL 13 "java/lang/IllegalArgumentException") (by decide +kernel), hM.2.2.2.2.2.1⟩) (by decide) (by decide) (hts (.classLink RL 19 "java/lang/IndexOutOfBoundsException") (by decide +kernel)) (va_tabs rfl rfl (hM.2.2.1 (.castable "java/lang/IndexOutOfBoundsException" "java/lang/IndexOutOfBoundsException") (by decide +kernel))) hce hcv hcl ?_
    clear hce
    generalize H1 = H at hP hS ⊢
    have hP : va_P (dC, dI) vwCl [(xo, .inr (2, [.int (nI k), .ref ra, .ref rb, .int (nI rs), .ref sm, .ref hh, .ref ps, .ref pb]))] H := hP
    have hD : va_D A [(xo, .inr (2, [.int (nI k), .ref ra, .ref rb, .int (nI rs), .ref sm, .ref hh, .ref ps, .ref pb]))] := hD
    refine W.widen (k := 1) (n := 6) (by omega) (by omega) ?_
    refine W.eq (g2 := F0 m 17 ls [.ref q9]) rfl ?_
    refine lv_astore (lv' := [(4, .ref q9), (0, .ref xo), (1, .int (nI q)), (2, .int i), (3, .ref oa)]) hx hb dL_rest_17 hl (by decide) rfl (fun ls hl => ?_)
    refine lv_iconst (v := nI 2) hx hb dL_rest_19 (by decide) ?_
    have hP9 : va_P (dC, dI) vwCl [(xo, .inr (2, [.int (nI k), .ref ra, .ref rb, .int (nI rs), .ref sm, .ref hh, .ref ps, .ref pb]))] H := hP.sub [0] rfl
    have hD9 : va_D A [(xo, .inr (2, [.int (nI k), .ref ra, .ref rb, .int (nI rs), .ref sm, .ref hh, .ref ps, .ref pb]))] := hD.sub [0] (by decide) rfl
    exact W.iret (v := nI 2) hx hb hr (fun tq9 ht hW => ⟨⟨nI 2, (), rfl, rfl, by rw [ht]; exact hP9, hD9⟩, hS.F ht⟩) hS.2.2 dL_rest_20
  exact hw.elim

abbrev q_L_value_ok (dC : Nat → ClassId) (dI : Nat → Nat → Nat) (xo ra rb sm hh ps pb k rs : Nat) (cI : ClassId) (fA : Nat → Int32) (q j : Nat) (oa : Nat) (cJ : ClassId) (FO : Nat → Int) (A : Nat → Prop) : Array Value → State → Outcome → State → Prop := va_Qi (fun (r : Int32) (u : Unit) => r = nI 0) (fun u t => va_P (dC, dI) vwCl [(xo, .inr (2, [.int (nI k), .ref ra, .ref rb, .int (nI rs), .ref sm, .ref hh, .ref ps, .ref pb])), (ra, .inl (cI, 256, .inl fA)), (oa, .inl (cJ, 1, .inr (.inl (fun t9 => lI ((upI FO 0 ((iI (hz fA (frW k (prN q) ^ ex32 (nI j) k % (prN q : Int)) 0 (2 ^ k) % (prN q : Int))).toInt)) t9)))))] t.heap ∧ va_D A [(xo, .inr (2, [.int (nI k), .ref ra, .ref rb, .int (nI rs), .ref sm, .ref hh, .ref ps, .ref pb])), (ra, .inl (cI, 256, .inl fA)), (oa, .inl (cJ, 1, .inr (.inl (fun t9 => lI ((upI FO 0 ((iI (hz fA (frW k (prN q) ^ ex32 (nI j) k % (prN q : Int)) 0 (2 ^ k) % (prN q : Int))).toInt)) t9)))))]) A
set_option maxHeartbeats 4000000 in
set_option maxRecDepth 100000 in
theorem c_L_value_ok (l : Launch) (dC : Nat → ClassId) (dI : Nat → Nat → Nat) (xo ra rb sm hh ps pb k rs : Nat) (cI : ClassId) (fA : Nat → Int32) (q j : Nat) (oa : Nat) (cJ : ClassId) (FO : Nat → Int) (sz : Nat) (tP : Nat) (sa : Nat → Nat) (zk1 : 1 ≤ k) (zk : k ≤ 8) (zq : q < 3) (zj : j < 2 ^ k) : Met l yL_value wsL_value ({ frames := 4, cells := 0, slots := 0, locals := 94 }) (va_Pc [.ref xo, .int (nI q), .int (nI j), .ref oa] (fun U => U.heap.size = sz ∧ va_P (dC, dI) vwCl [(xo, .inr (2, [.int (nI k), .ref ra, .ref rb, .int (nI rs), .ref sm, .ref hh, .ref ps, .ref pb])), (ra, .inl (cI, 256, .inl fA)), (oa, .inl (cJ, 1, .inr (.inl (fun t9 => lI (FO t9)))))] U.heap ∧ va_K (dC, dI) vwCl [(cI, .int), (cJ, .long)] U ∧ va_D (fun _ => True) [(xo, .inr (2, [.int (nI k), .ref ra, .ref rb, .int (nI rs), .ref sm, .ref hh, .ref ps, .ref pb])), (ra, .inl (cI, 256, .inl fA)), (oa, .inl (cJ, 1, .inr (.inl (fun t9 => lI (FO t9)))))] ∧ amb tP sa (va_A [(xo, .inr (2, [.int (nI k), .ref ra, .ref rb, .int (nI rs), .ref sm, .ref hh, .ref ps, .ref pb])), (ra, .inl (cI, 256, .inl fA)), (oa, .inl (cJ, 1, .inr (.inl (fun t9 => lI (FO t9)))))] sz) U U.heap)) (q_L_value_ok dC dI xo ra rb sm hh ps pb k rs cI fA q j oa cJ FO (va_A [(xo, .inr (2, [.int (nI k), .ref ra, .ref rb, .int (nI rs), .ref sm, .ref hh, .ref ps, .ref pb])), (ra, .inl (cI, 256, .inl fA)), (oa, .inl (cJ, 1, .inr (.inl (fun t9 => lI (FO t9)))))] sz)) 0 0 (va_A [(xo, .inr (2, [.int (nI k), .ref ra, .ref rb, .int (nI rs), .ref sm, .ref hh, .ref ps, .ref pb])), (ra, .inl (cI, 256, .inl fA)), (oa, .inl (cJ, 1, .inr (.inl (fun t9 => lI (FO t9)))))] sz) := by
  refine va_MetW (cc := cL_value) (maxL := 5) (ret := (some .int)) (hh := [(0, 10, 13, 13), (0, 10, 17, 19)]) (by decide) rfl ?_
  intro p e s m args below meth c s₁ B hml hv
  obtain ⟨rfl, hsz, hP, hK, hD0, hM⟩ := hv
  have hx := B.exec
  have hb := B.bytes
  have hr := B.returns
  have hts := atoms_spec (ws := wsL_value) B.pre
  have hown : s.vm.findClass RL = some m.cls := findClass_of_methodNamed B.named
  have hlocks := B.notSynchronized
  have htab := vx_table (x := yL_value) B (hts (.codeWith yL_value cL_value 5 (some .int) [(0, 10, 13, 13), (0, 10, 17, 19)]) List.mem_cons_self)
  subst hsz
  have hD := hD0.self (sz := s.heap.size)
  generalize hAe : va_A [(xo, .inr (2, [.int (nI k), .ref ra, .ref rb, .int (nI rs), .ref sm, .ref hh, .ref ps, .ref pb])), (ra, .inl (cI, 256, .inl fA)), (oa, .inl (cJ, 1, .inr (.inl (fun t9 => lI (FO t9)))))] s.heap.size = A at hD hM ⊢
  have hA : ∀ q : Nat, s.heap.size ≤ q → A q := fun q h => by rw [← hAe]; exact Or.inr h
  have hS : va_S A s.heap s.heap [] := va_S.rf
  have hP : va_P (dC, dI) vwCl [(xo, .inr (2, [.int (nI k), .ref ra, .ref rb, .int (nI rs), .ref sm, .ref hh, .ref ps, .ref pb])), (ra, .inl (cI, 256, .inl fA)), (oa, .inl (cJ, 1, .inr (.inl (fun t9 => lI (FO t9)))))] s.heap := hP
  have hl := lv_entry (([.ref xo, .int (nI q), .int (nI j), .ref oa] : List Value)) (n := 5) (Nat.le_of_ble_eq_true rfl)
  rw [lg_entry_eq]
  generalize (lg_sl (([.ref xo, .int (nI q), .int (nI j), .ref oa] : List Value)) ++ List.replicate (5 - (lg_sl (([.ref xo, .int (nI q), .int (nI j), .ref oa] : List Value))).length) Slot.unset).toArray = ls at hl ⊢
  have hl : lv_has ls 5 [(0, .ref xo), (1, .int (nI q)), (2, .int (nI j)), (3, .ref oa)] := hl
  obtain ⟨H, hHe⟩ : ∃ H : Heap, H = s.heap := ⟨_, rfl⟩
  rw [← hHe] at hP
  have hS : va_S A s.heap H [] := by rw [hHe]; exact hS
  obtain ⟨locs, hlo⟩ : ∃ L : List Loc, L = [] := ⟨_, rfl⟩
  rw [← hlo] at hS ⊢
  rw [← hHe]
  refine lv_aload_n hx hb dL_value_0 rfl (lv_at hl 3 rfl) ?_
  refine lv_iconst (v := nI 0) hx hb dL_value_1 (by decide) ?_
  refine lv_aload_n hx hb dL_value_2 rfl (lv_at hl 0 rfl) ?_
  refine lv_iload_n hx hb dL_value_3 rfl (lv_at hl 1 rfl) ?_
  refine lv_iload_n hx hb dL_value_4 rfl (lv_at hl 2 rfl) ?_
  have hPc := hP.sub (ws' := [(xo, .inr (2, [.int (nI k), .ref ra, .ref rb, .int (nI rs), .ref sm, .ref hh, .ref ps, .ref pb])), (ra, .inl (cI, 256, .inl fA))]) [0, 1] rfl
  have hDc := hD.sub (ws' := [(xo, .inr (2, [.int (nI k), .ref ra, .ref rb, .int (nI rs), .ref sm, .ref hh, .ref ps, .ref pb])), (ra, .inl (cI, 256, .inl fA))]) [0, 1] (by decide) rfl
  have hKc := hK.sub (tys' := [(cI, .int)]) [0] rfl
  have hFc := va_free (wc := [(xo, .inr (2, [.int (nI k), .ref ra, .ref rb, .int (nI rs), .ref sm, .ref hh, .ref ps, .ref pb])), (ra, .inl (cI, 256, .inl fA))]) hD hS hA [0, 1] rfl
  refine va_calli (va_runV (As := [.int (nI q), .int (nI j)]) (rest := [.int (nI 0), .ref oa]) ⟨hx, hb, hml, hown, hts⟩ (c_X3_value_ok l dC dI xo ra rb sm hh ps pb k rs cI fA q j H.size tP sa zk1 zk zq zj) (cwV 2 hts gL_value_X3_value rfl rfl rfl (by decide +kernel) ⟨Nat.le_of_ble_eq_true rfl, Nat.le_of_ble_eq_true rfl⟩) ⟨fun a U g mk q => by obtain ⟨q0, q1, qP, qK, qD, qM⟩ := q; exact ⟨q0, q1, qP, va_K.moved (u := U) (U := U.calling g mk a) (Vm.Alike.refl U.vm) qK, qD, amb_same (U := U) (U' := U.calling g mk a) rfl rfl qM⟩, va_recv hKc hPc (ci := 2) (q0 := 0) rfl rfl, fun U hU hW => ⟨rfl, by rw [hU], by rw [hU]; exact hPc, va_K.moved hW.alike hKc, hDc.weaken (fun _ _ _ _ => trivial), amb_pass hM hS hFc hW hU⟩⟩ rfl rfl hl.1 rfl (lv_room (Nat.le_of_ble_eq_true rfl)) dL_value_5 ⟨Nat.le_of_ble_eq_true rfl, Nat.le_of_ble_eq_true rfl⟩) hS (fun q _ h => hFc q h) hFc (fun r9 u9 t9 H1 locs ht hvm hw hB hz1 hk1 hS => ?_)
  obtain ⟨hP1, hD1⟩ := hB
  rw [ht] at hP1
  try dsimp only at hw
  obtain ⟨hP, hD⟩ := va_join (wr := [(oa, .inl (cJ, 1, .inr (.inl (fun t9 => lI (FO t9)))))]) (w1 := [(xo, .inr (2, [.int (nI k), .ref ra, .ref rb, .int (nI rs), .ref sm, .ref hh, .ref ps, .ref pb])), (ra, .inl (cI, 256, .inl fA))]) hP hD [0, 1] [2] rfl rfl (by decide) (by decide) hk1 hFc hP1 hD1
  generalize H1 = H at hP hS ⊢
  have hP : va_P (dC, dI) vwCl [(oa, .inl (cJ, 1, .inr (.inl (fun t9 => lI (FO t9))))), (xo, .inr (2, [.int (nI k), .ref ra, .ref rb, .int (nI rs), .ref sm, .ref hh, .ref ps, .ref pb])), (ra, .inl (cI, 256, .inl fA))] H := hP
  have hD : va_D A [(oa, .inl (cJ, 1, .inr (.inl (fun t9 => lI (FO t9))))), (xo, .inr (2, [.int (nI k), .ref ra, .ref rb, .int (nI rs), .ref sm, .ref hh, .ref ps, .ref pb])), (ra, .inl (cI, 256, .inl fA))] := hD
  clear hPc hDc hKc hFc hP1 hD1 hk1 hz1 hvm ht
  subst hw
  refine lv_i2l (v := lI ((iI (hz fA (frW k (prN q) ^ ex32 (nI j) k % (prN q : Int)) 0 (2 ^ k) % (prN q : Int))).toInt)) hx hb dL_value_8 (i2l_I (iI (hz fA (frW k (prN q) ^ ex32 (nI j) k % (prN q : Int)) 0 (2 ^ k) % (prN q : Int)))) ?_
  refine va_last hx hb hK hP hD hS 0 1 rfl rfl (vp_in_nI (by omega) (by omega)) dL_value_9 (fun H locs hP hD hS => ?_)
  rw [nI_clamp (show 0 < 2 ^ 31 by omega)] at hP hD
  rw [upI_l] at hP hD
  have hP : va_P (dC, dI) vwCl [(oa, .inl (cJ, 1, .inr (.inl (fun t9 => lI ((upI FO 0 ((iI (hz fA (frW k (prN q) ^ ex32 (nI j) k % (prN q : Int)) 0 (2 ^ k) % (prN q : Int))).toInt)) t9))))), (xo, .inr (2, [.int (nI k), .ref ra, .ref rb, .int (nI rs), .ref sm, .ref hh, .ref ps, .ref pb])), (ra, .inl (cI, 256, .inl fA))] H := hP
  have hD : va_D A [(oa, .inl (cJ, 1, .inr (.inl (fun t9 => lI ((upI FO 0 ((iI (hz fA (frW k (prN q) ^ ex32 (nI j) k % (prN q : Int)) 0 (2 ^ k) % (prN q : Int))).toInt)) t9))))), (xo, .inr (2, [.int (nI k), .ref ra, .ref rb, .int (nI rs), .ref sm, .ref hh, .ref ps, .ref pb])), (ra, .inl (cI, 256, .inl fA))] := hD
  refine lv_goto (tgt := 21) hx hb dL_value_10 (by decide) ?_
  refine lv_iconst (v := nI 0) hx hb dL_value_21 (by decide) ?_
  have hP9 : va_P (dC, dI) vwCl [(xo, .inr (2, [.int (nI k), .ref ra, .ref rb, .int (nI rs), .ref sm, .ref hh, .ref ps, .ref pb])), (ra, .inl (cI, 256, .inl fA)), (oa, .inl (cJ, 1, .inr (.inl (fun t9 => lI ((upI FO 0 ((iI (hz fA (frW k (prN q) ^ ex32 (nI j) k % (prN q : Int)) 0 (2 ^ k) % (prN q : Int))).toInt)) t9)))))] H := hP.sub [1, 2, 0] rfl
  have hD9 : va_D A [(xo, .inr (2, [.int (nI k), .ref ra, .ref rb, .int (nI rs), .ref sm, .ref hh, .ref ps, .ref pb])), (ra, .inl (cI, 256, .inl fA)), (oa, .inl (cJ, 1, .inr (.inl (fun t9 => lI ((upI FO 0 ((iI (hz fA (frW k (prN q) ^ ex32 (nI j) k % (prN q : Int)) 0 (2 ^ k) % (prN q : Int))).toInt)) t9)))))] := hD.sub [1, 2, 0] (by decide) rfl
  exact W.iret (v := nI 0) hx hb hr (fun tq9 ht hW => ⟨⟨nI 0, (), rfl, rfl, by rw [ht]; exact hP9, hD9⟩, hS.F ht⟩) hS.2.2 dL_value_22

abbrev q_L_value_badP (dC : Nat → ClassId) (dI : Nat → Nat → Nat) (xo ra rb sm hh ps pb k rs : Nat) (i v : Int32) (oa : Nat) (A : Nat → Prop) : Array Value → State → Outcome → State → Prop := va_Qi (fun (r : Int32) (u : Unit) => r = nI 1) (fun u t => va_P (dC, dI) vwCl [(xo, .inr (2, [.int (nI k), .ref ra, .ref rb, .int (nI rs), .ref sm, .ref hh, .ref ps, .ref pb]))] t.heap ∧ va_D A [(xo, .inr (2, [.int (nI k), .ref ra, .ref rb, .int (nI rs), .ref sm, .ref hh, .ref ps, .ref pb]))]) A
set_option maxHeartbeats 4000000 in
set_option maxRecDepth 100000 in
theorem c_L_value_badP (l : Launch) (dC : Nat → ClassId) (dI : Nat → Nat → Nat) (xo ra rb sm hh ps pb k rs : Nat) (i v : Int32) (oa : Nat) (sz : Nat) (tP : Nat) (sa : Nat → Nat) (hl9 : l.stackTraces = false) (hbad : i < 0 ∨ nI 3 ≤ i) : Met l yL_value wsL_value ({ frames := 8, cells := 1, slots := 6, locals := 125 }) (va_Pc [.ref xo, .int i, .int v, .ref oa] (fun U => U.heap.size = sz ∧ va_P (dC, dI) vwCl [(xo, .inr (2, [.int (nI k), .ref ra, .ref rb, .int (nI rs), .ref sm, .ref hh, .ref ps, .ref pb]))] U.heap ∧ va_K (dC, dI) vwCl [] U ∧ va_D (fun _ => True) [(xo, .inr (2, [.int (nI k), .ref ra, .ref rb, .int (nI rs), .ref sm, .ref hh, .ref ps, .ref pb]))] ∧ amb tP sa (va_A [(xo, .inr (2, [.int (nI k), .ref ra, .ref rb, .int (nI rs), .ref sm, .ref hh, .ref ps, .ref pb]))] sz) U U.heap)) (q_L_value_badP dC dI xo ra rb sm hh ps pb k rs i v oa (va_A [(xo, .inr (2, [.int (nI k), .ref ra, .ref rb, .int (nI rs), .ref sm, .ref hh, .ref ps, .ref pb]))] sz)) 1 6 (va_A [(xo, .inr (2, [.int (nI k), .ref ra, .ref rb, .int (nI rs), .ref sm, .ref hh, .ref ps, .ref pb]))] sz) := by
  refine va_MetW (cc := cL_value) (maxL := 5) (ret := (some .int)) (hh := [(0, 10, 13, 13), (0, 10, 17, 19)]) (by decide) rfl ?_
  intro p e s m args below meth c s₁ B hml hv
  obtain ⟨rfl, hsz, hP, hK, hD0, hM⟩ := hv
  have hx := B.exec
  have hb := B.bytes
  have hr := B.returns
  have hts := atoms_spec (ws := wsL_value) B.pre
  have hown : s.vm.findClass RL = some m.cls := findClass_of_methodNamed B.named
  have hlocks := B.notSynchronized
  have htab := vx_table (x := yL_value) B (hts (.codeWith yL_value cL_value 5 (some .int) [(0, 10, 13, 13), (0, 10, 17, 19)]) List.mem_cons_self)
  subst hsz
  have hD := hD0.self (sz := s.heap.size)
  generalize hAe : va_A [(xo, .inr (2, [.int (nI k), .ref ra, .ref rb, .int (nI rs), .ref sm, .ref hh, .ref ps, .ref pb]))] s.heap.size = A at hD hM ⊢
  have hA : ∀ q : Nat, s.heap.size ≤ q → A q := fun q h => by rw [← hAe]; exact Or.inr h
  have hS : va_S A s.heap s.heap [] := va_S.rf
  have hP : va_P (dC, dI) vwCl [(xo, .inr (2, [.int (nI k), .ref ra, .ref rb, .int (nI rs), .ref sm, .ref hh, .ref ps, .ref pb]))] s.heap := hP
  have hl := lv_entry (([.ref xo, .int i, .int v, .ref oa] : List Value)) (n := 5) (Nat.le_of_ble_eq_true rfl)
  rw [lg_entry_eq]
  generalize (lg_sl (([.ref xo, .int i, .int v, .ref oa] : List Value)) ++ List.replicate (5 - (lg_sl (([.ref xo, .int i, .int v, .ref oa] : List Value))).length) Slot.unset).toArray = ls at hl ⊢
  have hl : lv_has ls 5 [(0, .ref xo), (1, .int i), (2, .int v), (3, .ref oa)] := hl
  obtain ⟨H, hHe⟩ : ∃ H : Heap, H = s.heap := ⟨_, rfl⟩
  rw [← hHe] at hP
  have hS : va_S A s.heap H [] := by rw [hHe]; exact hS
  obtain ⟨locs, hlo⟩ : ∃ L : List Loc, L = [] := ⟨_, rfl⟩
  rw [← hlo] at hS ⊢
  rw [← hHe]
  refine lv_aload_n hx hb dL_value_0 rfl (lv_at hl 3 rfl) ?_
  refine lv_iconst (v := nI 0) hx hb dL_value_1 (by decide) ?_
  refine lv_aload_n hx hb dL_value_2 rfl (lv_at hl 0 rfl) ?_
  refine lv_iload_n hx hb dL_value_3 rfl (lv_at hl 1 rfl) ?_
  refine lv_iload_n hx hb dL_value_4 rfl (lv_at hl 2 rfl) ?_
  have hPc := hP.sub (ws' := [(xo, .inr (2, [.int (nI k), .ref ra, .ref rb, .int (nI rs), .ref sm, .ref hh, .ref ps, .ref pb]))]) [0] rfl
  have hDc := hD.sub (ws' := [(xo, .inr (2, [.int (nI k), .ref ra, .ref rb, .int (nI rs), .ref sm, .ref hh, .ref ps, .ref pb]))]) [0] (by decide) rfl
  have hKc := hK.sub (tys' := []) [] rfl
  have hFc := va_free (wc := [(xo, .inr (2, [.int (nI k), .ref ra, .ref rb, .int (nI rs), .ref sm, .ref hh, .ref ps, .ref pb]))]) hD hS hA [0] rfl
  refine vx_calli (vx_runV (As := [.int i, .int v]) (rest := [.int (nI 0), .ref oa]) ⟨hx, hb, hml, hown, hts⟩ (c_X3_value_badP l dC dI xo ra rb sm hh ps pb k rs i v H.size hl9 tP sa hbad) (cwV 2 hts gL_value_X3_value rfl rfl rfl (by decide +kernel) ⟨Nat.le_of_ble_eq_true rfl, Nat.le_of_ble_eq_true rfl⟩) ⟨fun a U g mk q => by obtain ⟨q0, q1, qP, qK, qD, qM⟩ := q; exact ⟨q0, q1, qP, va_K.moved (u := U) (U := U.calling g mk a) (Vm.Alike.refl U.vm) qK, qD, amb_same (U := U) (U' := U.calling g mk a) rfl rfl qM⟩, va_recv hKc hPc (ci := 2) (q0 := 0) rfl rfl, fun U hU hW => ⟨rfl, by rw [hU], by rw [hU]; exact hPc, va_K.moved hW.alike hKc, hDc.weaken (fun _ _ _ _ => trivial), amb_pass hM hS hFc hW hU⟩⟩ rfl rfl hl.1 rfl (lv_room (Nat.le_of_ble_eq_true rfl)) dL_value_5 ⟨Nat.le_of_ble_eq_true rfl, Nat.le_of_ble_eq_true rfl⟩) hS (fun q _ h => hFc q h) hFc (fun q _ h => hFc q h) (fun E9 ce9 q9 u9 t9 H1 locs ht hvm hw hB hz1 hk1 hS hce hcv hcl => ?_) (fun r9 u9 t9 H1 locs ht hvm hw hB hz1 hk1 hS => ?_)
  · obtain ⟨hxp, hP1, hD1⟩ := hB
    rw [ht] at hP1
    obtain ⟨hP, hD⟩ := va_join (wr := []) (w1 := [(xo, .inr (2, [.int (nI k), .ref ra, .ref rb, .int (nI rs), .ref sm, .ref hh, .ref ps, .ref pb]))]) hP hD [0] [] rfl rfl (by decide) (by decide) hk1 hFc hP1 hD1
    subst hxp
    refine vx_catch (own := RL) (name := "java/lang/IllegalArgumentException") hown [] ⟨0, 10, 13, 13⟩ [⟨0, 10, 17, 19⟩] (htab.trans rfl) (fun z hz => (List.not_mem_nil hz).elim) (by decide) (by decide) (hts (.classLink RL 13 "java/lang/IllegalArgumentException") (by decide +kernel)) (va_tabs rfl rfl (hM.2.2.1 (.castable "java/lang/IllegalArgumentException" "java/lang/IllegalArgumentException") (by decide +kernel))) hce hcv hcl ?_
    clear hce
    generalize H1 = H at hP hS ⊢
    have hP : va_P (dC, dI) vwCl [(xo, .inr (2, [.int (nI k), .ref ra, .ref rb, .int (nI rs), .ref sm, .ref hh, .ref ps, .ref pb]))] H := hP
    have hD : va_D A [(xo, .inr (2, [.int (nI k), .ref ra, .ref rb, .int (nI rs), .ref sm, .ref hh, .ref ps, .ref pb]))] := hD
    refine W.widen (k := 1) (n := 6) (by omega) (by omega) ?_
    refine W.eq (g2 := F0 m 13 ls [.ref q9]) rfl ?_
    refine lv_astore (lv' := [(4, .ref q9), (0, .ref xo), (1, .int i), (2, .int v), (3, .ref oa)]) hx hb dL_value_13 hl (by decide) rfl (fun ls hl => ?_)
    refine lv_iconst (v := nI 1) hx hb dL_value_15 (by decide) ?_
    have hP9 : va_P (dC, dI) vwCl [(xo, .inr (2, [.int (nI k), .ref ra, .ref rb, .int (nI rs), .ref sm, .ref hh, .ref ps, .ref pb]))] H := hP.sub [0] rfl
    have hD9 : va_D A [(xo, .inr (2, [.int (nI k), .ref ra, .ref rb, .int (nI rs), .ref sm, .ref hh, .ref ps, .ref pb]))] := hD.sub [0] (by decide) rfl
    exact W.iret (v := nI 1) hx hb hr (fun tq9 ht hW => ⟨⟨nI 1, (), rfl, rfl, by rw [ht]; exact hP9, hD9⟩, hS.F ht⟩) hS.2.2 dL_value_16
  exact hw.elim

abbrev q_L_value_badI (dC : Nat → ClassId) (dI : Nat → Nat → Nat) (xo ra rb sm hh ps pb k rs : Nat) (q : Nat) (i : Int32) (oa : Nat) (A : Nat → Prop) : Array Value → State → Outcome → State → Prop := va_Qi (fun (r : Int32) (u : Unit) => r = nI 2) (fun u t => va_P (dC, dI) vwCl [(xo, .inr (2, [.int (nI k), .ref ra, .ref rb, .int (nI rs), .ref sm, .ref hh, .ref ps, .ref pb]))] t.heap ∧ va_D A [(xo, .inr (2, [.int (nI k), .ref ra, .ref rb, .int (nI rs), .ref sm, .ref hh, .ref ps, .ref pb]))]) A
set_option maxHeartbeats 4000000 in
set_option maxRecDepth 100000 in
theorem c_L_value_badI (l : Launch) (dC : Nat → ClassId) (dI : Nat → Nat → Nat) (xo ra rb sm hh ps pb k rs : Nat) (q : Nat) (i : Int32) (oa : Nat) (sz : Nat) (tP : Nat) (sa : Nat → Nat) (hl9 : l.stackTraces = false) (zk1 : 1 ≤ k) (zk : k ≤ 8) (zq : q < 3) (hbad : i < 0 ∨ nI (2 ^ k) ≤ i) : Met l yL_value wsL_value ({ frames := 8, cells := 1, slots := 6, locals := 125 }) (va_Pc [.ref xo, .int (nI q), .int i, .ref oa] (fun U => U.heap.size = sz ∧ va_P (dC, dI) vwCl [(xo, .inr (2, [.int (nI k), .ref ra, .ref rb, .int (nI rs), .ref sm, .ref hh, .ref ps, .ref pb]))] U.heap ∧ va_K (dC, dI) vwCl [] U ∧ va_D (fun _ => True) [(xo, .inr (2, [.int (nI k), .ref ra, .ref rb, .int (nI rs), .ref sm, .ref hh, .ref ps, .ref pb]))] ∧ amb tP sa (va_A [(xo, .inr (2, [.int (nI k), .ref ra, .ref rb, .int (nI rs), .ref sm, .ref hh, .ref ps, .ref pb]))] sz) U U.heap)) (q_L_value_badI dC dI xo ra rb sm hh ps pb k rs q i oa (va_A [(xo, .inr (2, [.int (nI k), .ref ra, .ref rb, .int (nI rs), .ref sm, .ref hh, .ref ps, .ref pb]))] sz)) 1 6 (va_A [(xo, .inr (2, [.int (nI k), .ref ra, .ref rb, .int (nI rs), .ref sm, .ref hh, .ref ps, .ref pb]))] sz) := by
  refine va_MetW (cc := cL_value) (maxL := 5) (ret := (some .int)) (hh := [(0, 10, 13, 13), (0, 10, 17, 19)]) (by decide) rfl ?_
  intro p e s m args below meth c s₁ B hml hv
  obtain ⟨rfl, hsz, hP, hK, hD0, hM⟩ := hv
  have hx := B.exec
  have hb := B.bytes
  have hr := B.returns
  have hts := atoms_spec (ws := wsL_value) B.pre
  have hown : s.vm.findClass RL = some m.cls := findClass_of_methodNamed B.named
  have hlocks := B.notSynchronized
  have htab := vx_table (x := yL_value) B (hts (.codeWith yL_value cL_value 5 (some .int) [(0, 10, 13, 13), (0, 10, 17, 19)]) List.mem_cons_self)
  subst hsz
  have hD := hD0.self (sz := s.heap.size)
  generalize hAe : va_A [(xo, .inr (2, [.int (nI k), .ref ra, .ref rb, .int (nI rs), .ref sm, .ref hh, .ref ps, .ref pb]))] s.heap.size = A at hD hM ⊢
  have hA : ∀ q : Nat, s.heap.size ≤ q → A q := fun q h => by rw [← hAe]; exact Or.inr h
  have hS : va_S A s.heap s.heap [] := va_S.rf
  have hP : va_P (dC, dI) vwCl [(xo, .inr (2, [.int (nI k), .ref ra, .ref rb, .int (nI rs), .ref sm, .ref hh, .ref ps, .ref pb]))] s.heap := hP
  have hl := lv_entry (([.ref xo, .int (nI q), .int i, .ref oa] : List Value)) (n := 5) (Nat.le_of_ble_eq_true rfl)
  rw [lg_entry_eq]
  generalize (lg_sl (([.ref xo, .int (nI q), .int i, .ref oa] : List Value)) ++ List.replicate (5 - (lg_sl (([.ref xo, .int (nI q), .int i, .ref oa] : List Value))).length) Slot.unset).toArray = ls at hl ⊢
  have hl : lv_has ls 5 [(0, .ref xo), (1, .int (nI q)), (2, .int i), (3, .ref oa)] := hl
  obtain ⟨H, hHe⟩ : ∃ H : Heap, H = s.heap := ⟨_, rfl⟩
  rw [← hHe] at hP
  have hS : va_S A s.heap H [] := by rw [hHe]; exact hS
  obtain ⟨locs, hlo⟩ : ∃ L : List Loc, L = [] := ⟨_, rfl⟩
  rw [← hlo] at hS ⊢
  rw [← hHe]
  refine lv_aload_n hx hb dL_value_0 rfl (lv_at hl 3 rfl) ?_
  refine lv_iconst (v := nI 0) hx hb dL_value_1 (by decide) ?_
  refine lv_aload_n hx hb dL_value_2 rfl (lv_at hl 0 rfl) ?_
  refine lv_iload_n hx hb dL_value_3 rfl (lv_at hl 1 rfl) ?_
  refine lv_iload_n hx hb dL_value_4 rfl (lv_at hl 2 rfl) ?_
  have hPc := hP.sub (ws' := [(xo, .inr (2, [.int (nI k), .ref ra, .ref rb, .int (nI rs), .ref sm, .ref hh, .ref ps, .ref pb]))]) [0] rfl
  have hDc := hD.sub (ws' := [(xo, .inr (2, [.int (nI k), .ref ra, .ref rb, .int (nI rs), .ref sm, .ref hh, .ref ps, .ref pb]))]) [0] (by decide) rfl
  have hKc := hK.sub (tys' := []) [] rfl
  have hFc := va_free (wc := [(xo, .inr (2, [.int (nI k), .ref ra, .ref rb, .int (nI rs), .ref sm, .ref hh, .ref ps, .ref pb]))]) hD hS hA [0] rfl
  refine vx_calli (vx_runV (As := [.int (nI q), .int i]) (rest := [.int (nI 0), .ref oa]) ⟨hx, hb, hml, hown, hts⟩ (c_X3_value_badI l dC dI xo ra rb sm hh ps pb k rs q i H.size hl9 tP sa zk1 zk zq hbad) (cwV 2 hts gL_value_X3_value rfl rfl rfl (by decide +kernel) ⟨Nat.le_of_ble_eq_true rfl, Nat.le_of_ble_eq_true rfl⟩) ⟨fun a U g mk q => by obtain ⟨q0, q1, qP, qK, qD, qM⟩ := q; exact ⟨q0, q1, qP, va_K.moved (u := U) (U := U.calling g mk a) (Vm.Alike.refl U.vm) qK, qD, amb_same (U := U) (U' := U.calling g mk a) rfl rfl qM⟩, va_recv hKc hPc (ci := 2) (q0 := 0) rfl rfl, fun U hU hW => ⟨rfl, by rw [hU], by rw [hU]; exact hPc, va_K.moved hW.alike hKc, hDc.weaken (fun _ _ _ _ => trivial), amb_pass hM hS hFc hW hU⟩⟩ rfl rfl hl.1 rfl (lv_room (Nat.le_of_ble_eq_true rfl)) dL_value_5 ⟨Nat.le_of_ble_eq_true rfl, Nat.le_of_ble_eq_true rfl⟩) hS (fun q _ h => hFc q h) hFc (fun q _ h => hFc q h) (fun E9 ce9 q9 u9 t9 H1 locs ht hvm hw hB hz1 hk1 hS hce hcv hcl => ?_) (fun r9 u9 t9 H1 locs ht hvm hw hB hz1 hk1 hS => ?_)
  · obtain ⟨hxp, hP1, hD1⟩ := hB
    rw [ht] at hP1
    obtain ⟨hP, hD⟩ := va_join (wr := []) (w1 := [(xo, .inr (2, [.int (nI k), .ref ra, .ref rb, .int (nI rs), .ref sm, .ref hh, .ref ps, .ref pb]))]) hP hD [0] [] rfl rfl (by decide) (by decide) hk1 hFc hP1 hD1
    subst hxp
    refine vx_catch (own := RL) (name := "java/lang/IndexOutOfBoundsException") hown [⟨0, 10, 13, 13⟩] ⟨0, 10, 17, 19⟩ [] (htab.trans rfl) (fun z hz => by cases List.mem_singleton.mp hz; exact Or.inr ⟨by decide, _, hts (.classLink RL 13 "java/lang/IllegalArgumentException") (by decide +kernel), hM.2.2.2.2.2.1⟩) (by decide) (by decide) (hts (.classLink RL 19 "java/lang/IndexOutOfBoundsException") (by decide +kernel)) (va_tabs rfl rfl (hM.2.2.1 (.castable "java/lang/IndexOutOfBoundsException" "java/lang/IndexOutOfBoundsException") (by decide +kernel))) hce hcv hcl ?_
    clear hce
    generalize H1 = H at hP hS ⊢
    have hP : va_P (dC, dI) vwCl [(xo, .inr (2, [.int (nI k), .ref ra, .ref rb, .int (nI rs), .ref sm, .ref hh, .ref ps, .ref pb]))] H := hP
    have hD : va_D A [(xo, .inr (2, [.int (nI k), .ref ra, .ref rb, .int (nI rs), .ref sm, .ref hh, .ref ps, .ref pb]))] := hD
    refine W.widen (k := 1) (n := 6) (by omega) (by omega) ?_
    refine W.eq (g2 := F0 m 17 ls [.ref q9]) rfl ?_
    refine lv_astore (lv' := [(4, .ref q9), (0, .ref xo), (1, .int (nI q)), (2, .int i), (3, .ref oa)]) hx hb dL_value_17 hl (by decide) rfl (fun ls hl => ?_)
    refine lv_iconst (v := nI 2) hx hb dL_value_19 (by decide) ?_
    have hP9 : va_P (dC, dI) vwCl [(xo, .inr (2, [.int (nI k), .ref ra, .ref rb, .int (nI rs), .ref sm, .ref hh, .ref ps, .ref pb]))] H := hP.sub [0] rfl
    have hD9 : va_D A [(xo, .inr (2, [.int (nI k), .ref ra, .ref rb, .int (nI rs), .ref sm, .ref hh, .ref ps, .ref pb]))] := hD.sub [0] (by decide) rfl
    exact W.iret (v := nI 2) hx hb hr (fun tq9 ht hW => ⟨⟨nI 2, (), rfl, rfl, by rw [ht]; exact hP9, hD9⟩, hS.F ht⟩) hS.2.2 dL_value_20
  exact hw.elim

abbrev q_L_back_ok (dC : Nat → ClassId) (dI : Nat → Nat → Nat) (xo ra rb sm hh ps pb k rs : Nat) (cI : ClassId) (fA : Nat → Int32) (q j : Nat) (oa : Nat) (cJ : ClassId) (FO : Nat → Int) (A : Nat → Prop) : Array Value → State → Outcome → State → Prop := va_Qi (fun (r : Int32) (u : Unit) => r = nI 0) (fun u t => va_P (dC, dI) vwCl [(xo, .inr (2, [.int (nI k), .ref ra, .ref rb, .int (nI rs), .ref sm, .ref hh, .ref ps, .ref pb])), (ra, .inl (cI, 256, .inl fA)), (oa, .inl (cJ, 1, .inr (.inl (fun t9 => lI ((upI FO 0 ((iI ((hz fA (frW k (prN q) ^ ex32 (-nI j) k % (prN q : Int)) 0 (2 ^ k) % (prN q : Int)) * (((2 ^ k : Nat) : Int) ^ (prN q - 2) % (prN q : Int)) % (prN q : Int))).toInt)) t9)))))] t.heap ∧ va_D A [(xo, .inr (2, [.int (nI k), .ref ra, .ref rb, .int (nI rs), .ref sm, .ref hh, .ref ps, .ref pb])), (ra, .inl (cI, 256, .inl fA)), (oa, .inl (cJ, 1, .inr (.inl (fun t9 => lI ((upI FO 0 ((iI ((hz fA (frW k (prN q) ^ ex32 (-nI j) k % (prN q : Int)) 0 (2 ^ k) % (prN q : Int)) * (((2 ^ k : Nat) : Int) ^ (prN q - 2) % (prN q : Int)) % (prN q : Int))).toInt)) t9)))))]) A
set_option maxHeartbeats 4000000 in
set_option maxRecDepth 100000 in
theorem c_L_back_ok (l : Launch) (dC : Nat → ClassId) (dI : Nat → Nat → Nat) (xo ra rb sm hh ps pb k rs : Nat) (cI : ClassId) (fA : Nat → Int32) (q j : Nat) (oa : Nat) (cJ : ClassId) (FO : Nat → Int) (sz : Nat) (tP : Nat) (sa : Nat → Nat) (zk1 : 1 ≤ k) (zk : k ≤ 8) (zq : q < 3) (zj : j < 2 ^ k) : Met l yL_back wsL_back ({ frames := 4, cells := 0, slots := 0, locals := 95 }) (va_Pc [.ref xo, .int (nI q), .int (nI j), .ref oa] (fun U => U.heap.size = sz ∧ va_P (dC, dI) vwCl [(xo, .inr (2, [.int (nI k), .ref ra, .ref rb, .int (nI rs), .ref sm, .ref hh, .ref ps, .ref pb])), (ra, .inl (cI, 256, .inl fA)), (oa, .inl (cJ, 1, .inr (.inl (fun t9 => lI (FO t9)))))] U.heap ∧ va_K (dC, dI) vwCl [(cI, .int), (cJ, .long)] U ∧ va_D (fun _ => True) [(xo, .inr (2, [.int (nI k), .ref ra, .ref rb, .int (nI rs), .ref sm, .ref hh, .ref ps, .ref pb])), (ra, .inl (cI, 256, .inl fA)), (oa, .inl (cJ, 1, .inr (.inl (fun t9 => lI (FO t9)))))] ∧ amb tP sa (va_A [(xo, .inr (2, [.int (nI k), .ref ra, .ref rb, .int (nI rs), .ref sm, .ref hh, .ref ps, .ref pb])), (ra, .inl (cI, 256, .inl fA)), (oa, .inl (cJ, 1, .inr (.inl (fun t9 => lI (FO t9)))))] sz) U U.heap)) (q_L_back_ok dC dI xo ra rb sm hh ps pb k rs cI fA q j oa cJ FO (va_A [(xo, .inr (2, [.int (nI k), .ref ra, .ref rb, .int (nI rs), .ref sm, .ref hh, .ref ps, .ref pb])), (ra, .inl (cI, 256, .inl fA)), (oa, .inl (cJ, 1, .inr (.inl (fun t9 => lI (FO t9)))))] sz)) 0 0 (va_A [(xo, .inr (2, [.int (nI k), .ref ra, .ref rb, .int (nI rs), .ref sm, .ref hh, .ref ps, .ref pb])), (ra, .inl (cI, 256, .inl fA)), (oa, .inl (cJ, 1, .inr (.inl (fun t9 => lI (FO t9)))))] sz) := by
  refine va_MetW (cc := cL_back) (maxL := 5) (ret := (some .int)) (hh := [(0, 10, 13, 13), (0, 10, 17, 19)]) (by decide) rfl ?_
  intro p e s m args below meth c s₁ B hml hv
  obtain ⟨rfl, hsz, hP, hK, hD0, hM⟩ := hv
  have hx := B.exec
  have hb := B.bytes
  have hr := B.returns
  have hts := atoms_spec (ws := wsL_back) B.pre
  have hown : s.vm.findClass RL = some m.cls := findClass_of_methodNamed B.named
  have hlocks := B.notSynchronized
  have htab := vx_table (x := yL_back) B (hts (.codeWith yL_back cL_back 5 (some .int) [(0, 10, 13, 13), (0, 10, 17, 19)]) List.mem_cons_self)
  subst hsz
  have hD := hD0.self (sz := s.heap.size)
  generalize hAe : va_A [(xo, .inr (2, [.int (nI k), .ref ra, .ref rb, .int (nI rs), .ref sm, .ref hh, .ref ps, .ref pb])), (ra, .inl (cI, 256, .inl fA)), (oa, .inl (cJ, 1, .inr (.inl (fun t9 => lI (FO t9)))))] s.heap.size = A at hD hM ⊢
  have hA : ∀ q : Nat, s.heap.size ≤ q → A q := fun q h => by rw [← hAe]; exact Or.inr h
  have hS : va_S A s.heap s.heap [] := va_S.rf
  have hP : va_P (dC, dI) vwCl [(xo, .inr (2, [.int (nI k), .ref ra, .ref rb, .int (nI rs), .ref sm, .ref hh, .ref ps, .ref pb])), (ra, .inl (cI, 256, .inl fA)), (oa, .inl (cJ, 1, .inr (.inl (fun t9 => lI (FO t9)))))] s.heap := hP
  have hl := lv_entry (([.ref xo, .int (nI q), .int (nI j), .ref oa] : List Value)) (n := 5) (Nat.le_of_ble_eq_true rfl)
  rw [lg_entry_eq]
  generalize (lg_sl (([.ref xo, .int (nI q), .int (nI j), .ref oa] : List Value)) ++ List.replicate (5 - (lg_sl (([.ref xo, .int (nI q), .int (nI j), .ref oa] : List Value))).length) Slot.unset).toArray = ls at hl ⊢
  have hl : lv_has ls 5 [(0, .ref xo), (1, .int (nI q)), (2, .int (nI j)), (3, .ref oa)] := hl
  obtain ⟨H, hHe⟩ : ∃ H : Heap, H = s.heap := ⟨_, rfl⟩
  rw [← hHe] at hP
  have hS : va_S A s.heap H [] := by rw [hHe]; exact hS
  obtain ⟨locs, hlo⟩ : ∃ L : List Loc, L = [] := ⟨_, rfl⟩
  rw [← hlo] at hS ⊢
  rw [← hHe]
  refine lv_aload_n hx hb dL_back_0 rfl (lv_at hl 3 rfl) ?_
  refine lv_iconst (v := nI 0) hx hb dL_back_1 (by decide) ?_
  refine lv_aload_n hx hb dL_back_2 rfl (lv_at hl 0 rfl) ?_
  refine lv_iload_n hx hb dL_back_3 rfl (lv_at hl 1 rfl) ?_
  refine lv_iload_n hx hb dL_back_4 rfl (lv_at hl 2 rfl) ?_
  have hPc := hP.sub (ws' := [(xo, .inr (2, [.int (nI k), .ref ra, .ref rb, .int (nI rs), .ref sm, .ref hh, .ref ps, .ref pb])), (ra, .inl (cI, 256, .inl fA))]) [0, 1] rfl
  have hDc := hD.sub (ws' := [(xo, .inr (2, [.int (nI k), .ref ra, .ref rb, .int (nI rs), .ref sm, .ref hh, .ref ps, .ref pb])), (ra, .inl (cI, 256, .inl fA))]) [0, 1] (by decide) rfl
  have hKc := hK.sub (tys' := [(cI, .int)]) [0] rfl
  have hFc := va_free (wc := [(xo, .inr (2, [.int (nI k), .ref ra, .ref rb, .int (nI rs), .ref sm, .ref hh, .ref ps, .ref pb])), (ra, .inl (cI, 256, .inl fA))]) hD hS hA [0, 1] rfl
  refine va_calli (va_runV (As := [.int (nI q), .int (nI j)]) (rest := [.int (nI 0), .ref oa]) ⟨hx, hb, hml, hown, hts⟩ (c_X3_back_ok l dC dI xo ra rb sm hh ps pb k rs cI fA q j H.size tP sa zk1 zk zq zj) (cwV 2 hts gL_back_X3_back rfl rfl rfl (by decide +kernel) ⟨Nat.le_of_ble_eq_true rfl, Nat.le_of_ble_eq_true rfl⟩) ⟨fun a U g mk q => by obtain ⟨q0, q1, qP, qK, qD, qM⟩ := q; exact ⟨q0, q1, qP, va_K.moved (u := U) (U := U.calling g mk a) (Vm.Alike.refl U.vm) qK, qD, amb_same (U := U) (U' := U.calling g mk a) rfl rfl qM⟩, va_recv hKc hPc (ci := 2) (q0 := 0) rfl rfl, fun U hU hW => ⟨rfl, by rw [hU], by rw [hU]; exact hPc, va_K.moved hW.alike hKc, hDc.weaken (fun _ _ _ _ => trivial), amb_pass hM hS hFc hW hU⟩⟩ rfl rfl hl.1 rfl (lv_room (Nat.le_of_ble_eq_true rfl)) dL_back_5 ⟨Nat.le_of_ble_eq_true rfl, Nat.le_of_ble_eq_true rfl⟩) hS (fun q _ h => hFc q h) hFc (fun r9 u9 t9 H1 locs ht hvm hw hB hz1 hk1 hS => ?_)
  obtain ⟨hP1, hD1⟩ := hB
  rw [ht] at hP1
  try dsimp only at hw
  obtain ⟨hP, hD⟩ := va_join (wr := [(oa, .inl (cJ, 1, .inr (.inl (fun t9 => lI (FO t9)))))]) (w1 := [(xo, .inr (2, [.int (nI k), .ref ra, .ref rb, .int (nI rs), .ref sm, .ref hh, .ref ps, .ref pb])), (ra, .inl (cI, 256, .inl fA))]) hP hD [0, 1] [2] rfl rfl (by decide) (by decide) hk1 hFc hP1 hD1
  generalize H1 = H at hP hS ⊢
  have hP : va_P (dC, dI) vwCl [(oa, .inl (cJ, 1, .inr (.inl (fun t9 => lI (FO t9))))), (xo, .inr (2, [.int (nI k), .ref ra, .ref rb, .int (nI rs), .ref sm, .ref hh, .ref ps, .ref pb])), (ra, .inl (cI, 256, .inl fA))] H := hP
  have hD : va_D A [(oa, .inl (cJ, 1, .inr (.inl (fun t9 => lI (FO t9))))), (xo, .inr (2, [.int (nI k), .ref ra, .ref rb, .int (nI rs), .ref sm, .ref hh, .ref ps, .ref pb])), (ra, .inl (cI, 256, .inl fA))] := hD
  clear hPc hDc hKc hFc hP1 hD1 hk1 hz1 hvm ht
  subst hw
  refine lv_i2l (v := lI ((iI ((hz fA (frW k (prN q) ^ ex32 (-nI j) k % (prN q : Int)) 0 (2 ^ k) % (prN q : Int)) * (((2 ^ k : Nat) : Int) ^ (prN q - 2) % (prN q : Int)) % (prN q : Int))).toInt)) hx hb dL_back_8 (i2l_I (iI ((hz fA (frW k (prN q) ^ ex32 (-nI j) k % (prN q : Int)) 0 (2 ^ k) % (prN q : Int)) * (((2 ^ k : Nat) : Int) ^ (prN q - 2) % (prN q : Int)) % (prN q : Int)))) ?_
  refine va_last hx hb hK hP hD hS 0 1 rfl rfl (vp_in_nI (by omega) (by omega)) dL_back_9 (fun H locs hP hD hS => ?_)
  rw [nI_clamp (show 0 < 2 ^ 31 by omega)] at hP hD
  rw [upI_l] at hP hD
  have hP : va_P (dC, dI) vwCl [(oa, .inl (cJ, 1, .inr (.inl (fun t9 => lI ((upI FO 0 ((iI ((hz fA (frW k (prN q) ^ ex32 (-nI j) k % (prN q : Int)) 0 (2 ^ k) % (prN q : Int)) * (((2 ^ k : Nat) : Int) ^ (prN q - 2) % (prN q : Int)) % (prN q : Int))).toInt)) t9))))), (xo, .inr (2, [.int (nI k), .ref ra, .ref rb, .int (nI rs), .ref sm, .ref hh, .ref ps, .ref pb])), (ra, .inl (cI, 256, .inl fA))] H := hP
  have hD : va_D A [(oa, .inl (cJ, 1, .inr (.inl (fun t9 => lI ((upI FO 0 ((iI ((hz fA (frW k (prN q) ^ ex32 (-nI j) k % (prN q : Int)) 0 (2 ^ k) % (prN q : Int)) * (((2 ^ k : Nat) : Int) ^ (prN q - 2) % (prN q : Int)) % (prN q : Int))).toInt)) t9))))), (xo, .inr (2, [.int (nI k), .ref ra, .ref rb, .int (nI rs), .ref sm, .ref hh, .ref ps, .ref pb])), (ra, .inl (cI, 256, .inl fA))] := hD
  refine lv_goto (tgt := 21) hx hb dL_back_10 (by decide) ?_
  refine lv_iconst (v := nI 0) hx hb dL_back_21 (by decide) ?_
  have hP9 : va_P (dC, dI) vwCl [(xo, .inr (2, [.int (nI k), .ref ra, .ref rb, .int (nI rs), .ref sm, .ref hh, .ref ps, .ref pb])), (ra, .inl (cI, 256, .inl fA)), (oa, .inl (cJ, 1, .inr (.inl (fun t9 => lI ((upI FO 0 ((iI ((hz fA (frW k (prN q) ^ ex32 (-nI j) k % (prN q : Int)) 0 (2 ^ k) % (prN q : Int)) * (((2 ^ k : Nat) : Int) ^ (prN q - 2) % (prN q : Int)) % (prN q : Int))).toInt)) t9)))))] H := hP.sub [1, 2, 0] rfl
  have hD9 : va_D A [(xo, .inr (2, [.int (nI k), .ref ra, .ref rb, .int (nI rs), .ref sm, .ref hh, .ref ps, .ref pb])), (ra, .inl (cI, 256, .inl fA)), (oa, .inl (cJ, 1, .inr (.inl (fun t9 => lI ((upI FO 0 ((iI ((hz fA (frW k (prN q) ^ ex32 (-nI j) k % (prN q : Int)) 0 (2 ^ k) % (prN q : Int)) * (((2 ^ k : Nat) : Int) ^ (prN q - 2) % (prN q : Int)) % (prN q : Int))).toInt)) t9)))))] := hD.sub [1, 2, 0] (by decide) rfl
  exact W.iret (v := nI 0) hx hb hr (fun tq9 ht hW => ⟨⟨nI 0, (), rfl, rfl, by rw [ht]; exact hP9, hD9⟩, hS.F ht⟩) hS.2.2 dL_back_22

abbrev q_L_back_badP (dC : Nat → ClassId) (dI : Nat → Nat → Nat) (xo ra rb sm hh ps pb k rs : Nat) (i v : Int32) (oa : Nat) (A : Nat → Prop) : Array Value → State → Outcome → State → Prop := va_Qi (fun (r : Int32) (u : Unit) => r = nI 1) (fun u t => va_P (dC, dI) vwCl [(xo, .inr (2, [.int (nI k), .ref ra, .ref rb, .int (nI rs), .ref sm, .ref hh, .ref ps, .ref pb]))] t.heap ∧ va_D A [(xo, .inr (2, [.int (nI k), .ref ra, .ref rb, .int (nI rs), .ref sm, .ref hh, .ref ps, .ref pb]))]) A
set_option maxHeartbeats 4000000 in
set_option maxRecDepth 100000 in
theorem c_L_back_badP (l : Launch) (dC : Nat → ClassId) (dI : Nat → Nat → Nat) (xo ra rb sm hh ps pb k rs : Nat) (i v : Int32) (oa : Nat) (sz : Nat) (tP : Nat) (sa : Nat → Nat) (hl9 : l.stackTraces = false) (hbad : i < 0 ∨ nI 3 ≤ i) : Met l yL_back wsL_back ({ frames := 8, cells := 1, slots := 6, locals := 126 }) (va_Pc [.ref xo, .int i, .int v, .ref oa] (fun U => U.heap.size = sz ∧ va_P (dC, dI) vwCl [(xo, .inr (2, [.int (nI k), .ref ra, .ref rb, .int (nI rs), .ref sm, .ref hh, .ref ps, .ref pb]))] U.heap ∧ va_K (dC, dI) vwCl [] U ∧ va_D (fun _ => True) [(xo, .inr (2, [.int (nI k), .ref ra, .ref rb, .int (nI rs), .ref sm, .ref hh, .ref ps, .ref pb]))] ∧ amb tP sa (va_A [(xo, .inr (2, [.int (nI k), .ref ra, .ref rb, .int (nI rs), .ref sm, .ref hh, .ref ps, .ref pb]))] sz) U U.heap)) (q_L_back_badP dC dI xo ra rb sm hh ps pb k rs i v oa (va_A [(xo, .inr (2, [.int (nI k), .ref ra, .ref rb, .int (nI rs), .ref sm, .ref hh, .ref ps, .ref pb]))] sz)) 1 6 (va_A [(xo, .inr (2, [.int (nI k), .ref ra, .ref rb, .int (nI rs), .ref sm, .ref hh, .ref ps, .ref pb]))] sz) := by
  refine va_MetW (cc := cL_back) (maxL := 5) (ret := (some .int)) (hh := [(0, 10, 13, 13), (0, 10, 17, 19)]) (by decide) rfl ?_
  intro p e s m args below meth c s₁ B hml hv
  obtain ⟨rfl, hsz, hP, hK, hD0, hM⟩ := hv
  have hx := B.exec
  have hb := B.bytes
  have hr := B.returns
  have hts := atoms_spec (ws := wsL_back) B.pre
  have hown : s.vm.findClass RL = some m.cls := findClass_of_methodNamed B.named
  have hlocks := B.notSynchronized
  have htab := vx_table (x := yL_back) B (hts (.codeWith yL_back cL_back 5 (some .int) [(0, 10, 13, 13), (0, 10, 17, 19)]) List.mem_cons_self)
  subst hsz
  have hD := hD0.self (sz := s.heap.size)
  generalize hAe : va_A [(xo, .inr (2, [.int (nI k), .ref ra, .ref rb, .int (nI rs), .ref sm, .ref hh, .ref ps, .ref pb]))] s.heap.size = A at hD hM ⊢
  have hA : ∀ q : Nat, s.heap.size ≤ q → A q := fun q h => by rw [← hAe]; exact Or.inr h
  have hS : va_S A s.heap s.heap [] := va_S.rf
  have hP : va_P (dC, dI) vwCl [(xo, .inr (2, [.int (nI k), .ref ra, .ref rb, .int (nI rs), .ref sm, .ref hh, .ref ps, .ref pb]))] s.heap := hP
  have hl := lv_entry (([.ref xo, .int i, .int v, .ref oa] : List Value)) (n := 5) (Nat.le_of_ble_eq_true rfl)
  rw [lg_entry_eq]
  generalize (lg_sl (([.ref xo, .int i, .int v, .ref oa] : List Value)) ++ List.replicate (5 - (lg_sl (([.ref xo, .int i, .int v, .ref oa] : List Value))).length) Slot.unset).toArray = ls at hl ⊢
  have hl : lv_has ls 5 [(0, .ref xo), (1, .int i), (2, .int v), (3, .ref oa)] := hl
  obtain ⟨H, hHe⟩ : ∃ H : Heap, H = s.heap := ⟨_, rfl⟩
  rw [← hHe] at hP
  have hS : va_S A s.heap H [] := by rw [hHe]; exact hS
  obtain ⟨locs, hlo⟩ : ∃ L : List Loc, L = [] := ⟨_, rfl⟩
  rw [← hlo] at hS ⊢
  rw [← hHe]
  refine lv_aload_n hx hb dL_back_0 rfl (lv_at hl 3 rfl) ?_
  refine lv_iconst (v := nI 0) hx hb dL_back_1 (by decide) ?_
  refine lv_aload_n hx hb dL_back_2 rfl (lv_at hl 0 rfl) ?_
  refine lv_iload_n hx hb dL_back_3 rfl (lv_at hl 1 rfl) ?_
  refine lv_iload_n hx hb dL_back_4 rfl (lv_at hl 2 rfl) ?_
  have hPc := hP.sub (ws' := [(xo, .inr (2, [.int (nI k), .ref ra, .ref rb, .int (nI rs), .ref sm, .ref hh, .ref ps, .ref pb]))]) [0] rfl
  have hDc := hD.sub (ws' := [(xo, .inr (2, [.int (nI k), .ref ra, .ref rb, .int (nI rs), .ref sm, .ref hh, .ref ps, .ref pb]))]) [0] (by decide) rfl
  have hKc := hK.sub (tys' := []) [] rfl
  have hFc := va_free (wc := [(xo, .inr (2, [.int (nI k), .ref ra, .ref rb, .int (nI rs), .ref sm, .ref hh, .ref ps, .ref pb]))]) hD hS hA [0] rfl
  refine vx_calli (vx_runV (As := [.int i, .int v]) (rest := [.int (nI 0), .ref oa]) ⟨hx, hb, hml, hown, hts⟩ (c_X3_back_badP l dC dI xo ra rb sm hh ps pb k rs i v H.size hl9 tP sa hbad) (cwV 2 hts gL_back_X3_back rfl rfl rfl (by decide +kernel) ⟨Nat.le_of_ble_eq_true rfl, Nat.le_of_ble_eq_true rfl⟩) ⟨fun a U g mk q => by obtain ⟨q0, q1, qP, qK, qD, qM⟩ := q; exact ⟨q0, q1, qP, va_K.moved (u := U) (U := U.calling g mk a) (Vm.Alike.refl U.vm) qK, qD, amb_same (U := U) (U' := U.calling g mk a) rfl rfl qM⟩, va_recv hKc hPc (ci := 2) (q0 := 0) rfl rfl, fun U hU hW => ⟨rfl, by rw [hU], by rw [hU]; exact hPc, va_K.moved hW.alike hKc, hDc.weaken (fun _ _ _ _ => trivial), amb_pass hM hS hFc hW hU⟩⟩ rfl rfl hl.1 rfl (lv_room (Nat.le_of_ble_eq_true rfl)) dL_back_5 ⟨Nat.le_of_ble_eq_true rfl, Nat.le_of_ble_eq_true rfl⟩) hS (fun q _ h => hFc q h) hFc (fun q _ h => hFc q h) (fun E9 ce9 q9 u9 t9 H1 locs ht hvm hw hB hz1 hk1 hS hce hcv hcl => ?_) (fun r9 u9 t9 H1 locs ht hvm hw hB hz1 hk1 hS => ?_)
  · obtain ⟨hxp, hP1, hD1⟩ := hB
    rw [ht] at hP1
    obtain ⟨hP, hD⟩ := va_join (wr := []) (w1 := [(xo, .inr (2, [.int (nI k), .ref ra, .ref rb, .int (nI rs), .ref sm, .ref hh, .ref ps, .ref pb]))]) hP hD [0] [] rfl rfl (by decide) (by decide) hk1 hFc hP1 hD1
    subst hxp
    refine vx_catch (own := RL) (name := "java/lang/IllegalArgumentException") hown [] ⟨0, 10, 13, 13⟩ [⟨0, 10, 17, 19⟩] (htab.trans rfl) (fun z hz => (List.not_mem_nil hz).elim) (by decide) (by decide) (hts (.classLink RL 13 "java/lang/IllegalArgumentException") (by decide +kernel)) (va_tabs rfl rfl (hM.2.2.1 (.castable "java/lang/IllegalArgumentException" "java/lang/IllegalArgumentException") (by decide +kernel))) hce hcv hcl ?_
    clear hce
    generalize H1 = H at hP hS ⊢
    have hP : va_P (dC, dI) vwCl [(xo, .inr (2, [.int (nI k), .ref ra, .ref rb, .int (nI rs), .ref sm, .ref hh, .ref ps, .ref pb]))] H := hP
    have hD : va_D A [(xo, .inr (2, [.int (nI k), .ref ra, .ref rb, .int (nI rs), .ref sm, .ref hh, .ref ps, .ref pb]))] := hD
    refine W.widen (k := 1) (n := 6) (by omega) (by omega) ?_
    refine W.eq (g2 := F0 m 13 ls [.ref q9]) rfl ?_
    refine lv_astore (lv' := [(4, .ref q9), (0, .ref xo), (1, .int i), (2, .int v), (3, .ref oa)]) hx hb dL_back_13 hl (by decide) rfl (fun ls hl => ?_)
    refine lv_iconst (v := nI 1) hx hb dL_back_15 (by decide) ?_
    have hP9 : va_P (dC, dI) vwCl [(xo, .inr (2, [.int (nI k), .ref ra, .ref rb, .int (nI rs), .ref sm, .ref hh, .ref ps, .ref pb]))] H := hP.sub [0] rfl
    have hD9 : va_D A [(xo, .inr (2, [.int (nI k), .ref ra, .ref rb, .int (nI rs), .ref sm, .ref hh, .ref ps, .ref pb]))] := hD.sub [0] (by decide) rfl
    exact W.iret (v := nI 1) hx hb hr (fun tq9 ht hW => ⟨⟨nI 1, (), rfl, rfl, by rw [ht]; exact hP9, hD9⟩, hS.F ht⟩) hS.2.2 dL_back_16
  exact hw.elim

abbrev q_L_back_badI (dC : Nat → ClassId) (dI : Nat → Nat → Nat) (xo ra rb sm hh ps pb k rs : Nat) (q : Nat) (i : Int32) (oa : Nat) (A : Nat → Prop) : Array Value → State → Outcome → State → Prop := va_Qi (fun (r : Int32) (u : Unit) => r = nI 2) (fun u t => va_P (dC, dI) vwCl [(xo, .inr (2, [.int (nI k), .ref ra, .ref rb, .int (nI rs), .ref sm, .ref hh, .ref ps, .ref pb]))] t.heap ∧ va_D A [(xo, .inr (2, [.int (nI k), .ref ra, .ref rb, .int (nI rs), .ref sm, .ref hh, .ref ps, .ref pb]))]) A
set_option maxHeartbeats 4000000 in
set_option maxRecDepth 100000 in
theorem c_L_back_badI (l : Launch) (dC : Nat → ClassId) (dI : Nat → Nat → Nat) (xo ra rb sm hh ps pb k rs : Nat) (q : Nat) (i : Int32) (oa : Nat) (sz : Nat) (tP : Nat) (sa : Nat → Nat) (hl9 : l.stackTraces = false) (zk1 : 1 ≤ k) (zk : k ≤ 8) (zq : q < 3) (hbad : i < 0 ∨ nI (2 ^ k) ≤ i) : Met l yL_back wsL_back ({ frames := 8, cells := 1, slots := 6, locals := 126 }) (va_Pc [.ref xo, .int (nI q), .int i, .ref oa] (fun U => U.heap.size = sz ∧ va_P (dC, dI) vwCl [(xo, .inr (2, [.int (nI k), .ref ra, .ref rb, .int (nI rs), .ref sm, .ref hh, .ref ps, .ref pb]))] U.heap ∧ va_K (dC, dI) vwCl [] U ∧ va_D (fun _ => True) [(xo, .inr (2, [.int (nI k), .ref ra, .ref rb, .int (nI rs), .ref sm, .ref hh, .ref ps, .ref pb]))] ∧ amb tP sa (va_A [(xo, .inr (2, [.int (nI k), .ref ra, .ref rb, .int (nI rs), .ref sm, .ref hh, .ref ps, .ref pb]))] sz) U U.heap)) (q_L_back_badI dC dI xo ra rb sm hh ps pb k rs q i oa (va_A [(xo, .inr (2, [.int (nI k), .ref ra, .ref rb, .int (nI rs), .ref sm, .ref hh, .ref ps, .ref pb]))] sz)) 1 6 (va_A [(xo, .inr (2, [.int (nI k), .ref ra, .ref rb, .int (nI rs), .ref sm, .ref hh, .ref ps, .ref pb]))] sz) := by
  refine va_MetW (cc := cL_back) (maxL := 5) (ret := (some .int)) (hh := [(0, 10, 13, 13), (0, 10, 17, 19)]) (by decide) rfl ?_
  intro p e s m args below meth c s₁ B hml hv
  obtain ⟨rfl, hsz, hP, hK, hD0, hM⟩ := hv
  have hx := B.exec
  have hb := B.bytes
  have hr := B.returns
  have hts := atoms_spec (ws := wsL_back) B.pre
  have hown : s.vm.findClass RL = some m.cls := findClass_of_methodNamed B.named
  have hlocks := B.notSynchronized
  have htab := vx_table (x := yL_back) B (hts (.codeWith yL_back cL_back 5 (some .int) [(0, 10, 13, 13), (0, 10, 17, 19)]) List.mem_cons_self)
  subst hsz
  have hD := hD0.self (sz := s.heap.size)
  generalize hAe : va_A [(xo, .inr (2, [.int (nI k), .ref ra, .ref rb, .int (nI rs), .ref sm, .ref hh, .ref ps, .ref pb]))] s.heap.size = A at hD hM ⊢
  have hA : ∀ q : Nat, s.heap.size ≤ q → A q := fun q h => by rw [← hAe]; exact Or.inr h
  have hS : va_S A s.heap s.heap [] := va_S.rf
  have hP : va_P (dC, dI) vwCl [(xo, .inr (2, [.int (nI k), .ref ra, .ref rb, .int (nI rs), .ref sm, .ref hh, .ref ps, .ref pb]))] s.heap := hP
  have hl := lv_entry (([.ref xo, .int (nI q), .int i, .ref oa] : List Value)) (n := 5) (Nat.le_of_ble_eq_true rfl)
  rw [lg_entry_eq]
  generalize (lg_sl (([.ref xo, .int (nI q), .int i, .ref oa] : List Value)) ++ List.replicate (5 - (lg_sl (([.ref xo, .int (nI q), .int i, .ref oa] : List Value))).length) Slot.unset).toArray = ls at hl ⊢
  have hl : lv_has ls 5 [(0, .ref xo), (1, .int (nI q)), (2, .int i), (3, .ref oa)] := hl
  obtain ⟨H, hHe⟩ : ∃ H : Heap, H = s.heap := ⟨_, rfl⟩
  rw [← hHe] at hP
  have hS : va_S A s.heap H [] := by rw [hHe]; exact hS
  obtain ⟨locs, hlo⟩ : ∃ L : List Loc, L = [] := ⟨_, rfl⟩
  rw [← hlo] at hS ⊢
  rw [← hHe]
  refine lv_aload_n hx hb dL_back_0 rfl (lv_at hl 3 rfl) ?_
  refine lv_iconst (v := nI 0) hx hb dL_back_1 (by decide) ?_
  refine lv_aload_n hx hb dL_back_2 rfl (lv_at hl 0 rfl) ?_
  refine lv_iload_n hx hb dL_back_3 rfl (lv_at hl 1 rfl) ?_
  refine lv_iload_n hx hb dL_back_4 rfl (lv_at hl 2 rfl) ?_
  have hPc := hP.sub (ws' := [(xo, .inr (2, [.int (nI k), .ref ra, .ref rb, .int (nI rs), .ref sm, .ref hh, .ref ps, .ref pb]))]) [0] rfl
  have hDc := hD.sub (ws' := [(xo, .inr (2, [.int (nI k), .ref ra, .ref rb, .int (nI rs), .ref sm, .ref hh, .ref ps, .ref pb]))]) [0] (by decide) rfl
  have hKc := hK.sub (tys' := []) [] rfl
  have hFc := va_free (wc := [(xo, .inr (2, [.int (nI k), .ref ra, .ref rb, .int (nI rs), .ref sm, .ref hh, .ref ps, .ref pb]))]) hD hS hA [0] rfl
  refine vx_calli (vx_runV (As := [.int (nI q), .int i]) (rest := [.int (nI 0), .ref oa]) ⟨hx, hb, hml, hown, hts⟩ (c_X3_back_badI l dC dI xo ra rb sm hh ps pb k rs q i H.size hl9 tP sa zk1 zk zq hbad) (cwV 2 hts gL_back_X3_back rfl rfl rfl (by decide +kernel) ⟨Nat.le_of_ble_eq_true rfl, Nat.le_of_ble_eq_true rfl⟩) ⟨fun a U g mk q => by obtain ⟨q0, q1, qP, qK, qD, qM⟩ := q; exact ⟨q0, q1, qP, va_K.moved (u := U) (U := U.calling g mk a) (Vm.Alike.refl U.vm) qK, qD, amb_same (U := U) (U' := U.calling g mk a) rfl rfl qM⟩, va_recv hKc hPc (ci := 2) (q0 := 0) rfl rfl, fun U hU hW => ⟨rfl, by rw [hU], by rw [hU]; exact hPc, va_K.moved hW.alike hKc, hDc.weaken (fun _ _ _ _ => trivial), amb_pass hM hS hFc hW hU⟩⟩ rfl rfl hl.1 rfl (lv_room (Nat.le_of_ble_eq_true rfl)) dL_back_5 ⟨Nat.le_of_ble_eq_true rfl, Nat.le_of_ble_eq_true rfl⟩) hS (fun q _ h => hFc q h) hFc (fun q _ h => hFc q h) (fun E9 ce9 q9 u9 t9 H1 locs ht hvm hw hB hz1 hk1 hS hce hcv hcl => ?_) (fun r9 u9 t9 H1 locs ht hvm hw hB hz1 hk1 hS => ?_)
  · obtain ⟨hxp, hP1, hD1⟩ := hB
    rw [ht] at hP1
    obtain ⟨hP, hD⟩ := va_join (wr := []) (w1 := [(xo, .inr (2, [.int (nI k), .ref ra, .ref rb, .int (nI rs), .ref sm, .ref hh, .ref ps, .ref pb]))]) hP hD [0] [] rfl rfl (by decide) (by decide) hk1 hFc hP1 hD1
    subst hxp
    refine vx_catch (own := RL) (name := "java/lang/IndexOutOfBoundsException") hown [⟨0, 10, 13, 13⟩] ⟨0, 10, 17, 19⟩ [] (htab.trans rfl) (fun z hz => by cases List.mem_singleton.mp hz; exact Or.inr ⟨by decide, _, hts (.classLink RL 13 "java/lang/IllegalArgumentException") (by decide +kernel), hM.2.2.2.2.2.1⟩) (by decide) (by decide) (hts (.classLink RL 19 "java/lang/IndexOutOfBoundsException") (by decide +kernel)) (va_tabs rfl rfl (hM.2.2.1 (.castable "java/lang/IndexOutOfBoundsException" "java/lang/IndexOutOfBoundsException") (by decide +kernel))) hce hcv hcl ?_
    clear hce
    generalize H1 = H at hP hS ⊢
    have hP : va_P (dC, dI) vwCl [(xo, .inr (2, [.int (nI k), .ref ra, .ref rb, .int (nI rs), .ref sm, .ref hh, .ref ps, .ref pb]))] H := hP
    have hD : va_D A [(xo, .inr (2, [.int (nI k), .ref ra, .ref rb, .int (nI rs), .ref sm, .ref hh, .ref ps, .ref pb]))] := hD
    refine W.widen (k := 1) (n := 6) (by omega) (by omega) ?_
    refine W.eq (g2 := F0 m 17 ls [.ref q9]) rfl ?_
    refine lv_astore (lv' := [(4, .ref q9), (0, .ref xo), (1, .int (nI q)), (2, .int i), (3, .ref oa)]) hx hb dL_back_17 hl (by decide) rfl (fun ls hl => ?_)
    refine lv_iconst (v := nI 2) hx hb dL_back_19 (by decide) ?_
    have hP9 : va_P (dC, dI) vwCl [(xo, .inr (2, [.int (nI k), .ref ra, .ref rb, .int (nI rs), .ref sm, .ref hh, .ref ps, .ref pb]))] H := hP.sub [0] rfl
    have hD9 : va_D A [(xo, .inr (2, [.int (nI k), .ref ra, .ref rb, .int (nI rs), .ref sm, .ref hh, .ref ps, .ref pb]))] := hD.sub [0] (by decide) rfl
    exact W.iret (v := nI 2) hx hb hr (fun tq9 ht hW => ⟨⟨nI 2, (), rfl, rfl, by rw [ht]; exact hP9, hD9⟩, hS.F ht⟩) hS.2.2 dL_back_20
  exact hw.elim

abbrev q_L_keep_ok (dC : Nat → ClassId) (dI : Nat → Nat → Nat) (xo ra rb sm hh ps pb k rs : Nat) (cI cO : ClassId) (so r0 r1 r2 : Nat) (g : Nat → Option Nat) (R0 R1 R2 : Nat → Int32) (fA : Nat → Int32) (A : Nat → Prop) : Array Value → State → Outcome → State → Prop := va_Qi (fun (r : Int32) (u : Unit) => r = nI 0) (fun u t => va_P (dC, dI) vwCl [(xo, .inr (2, [.int (nI k), .ref ra, .ref rb, .int (nI rs), .ref sm, .ref hh, .ref ps, .ref pb])), (sm, .inr (1, [.ref so])), (so, .inl (cO, 3, .inr (.inr (.inr (.inr g))))), (r0, .inl (cI, 511, .inl R0)), (r1, .inl (cI, 511, .inl R1)), (r2, .inl (cI, 511, .inl R2)), (ra, .inl (cI, 256, .inl (ctI fA R0 R1 R2 (2 ^ k))))] t.heap ∧ va_D A [(xo, .inr (2, [.int (nI k), .ref ra, .ref rb, .int (nI rs), .ref sm, .ref hh, .ref ps, .ref pb])), (sm, .inr (1, [.ref so])), (so, .inl (cO, 3, .inr (.inr (.inr (.inr g))))), (r0, .inl (cI, 511, .inl R0)), (r1, .inl (cI, 511, .inl R1)), (r2, .inl (cI, 511, .inl R2)), (ra, .inl (cI, 256, .inl (ctI fA R0 R1 R2 (2 ^ k))))]) A
set_option maxHeartbeats 4000000 in
set_option maxRecDepth 100000 in
theorem c_L_keep_ok (l : Launch) (dC : Nat → ClassId) (dI : Nat → Nat → Nat) (xo ra rb sm hh ps pb k rs : Nat) (cI cO : ClassId) (so r0 r1 r2 : Nat) (g : Nat → Option Nat) (R0 R1 R2 : Nat → Int32) (fA : Nat → Int32) (sz : Nat) (zk1 : 1 ≤ k) (zk : k ≤ 8) (hg0 : g 0 = some r0) (hg1 : g 1 = some r1) (hg2 : g 2 = some r2) (zrs : 1 ≤ rs) (zrs2 : rs ≤ 511) : Met l yL_keep wsL_keep ({ frames := 5, cells := 0, slots := 0, locals := 117 }) (va_Pc [.ref xo] (fun U => U.heap.size = sz ∧ va_P (dC, dI) vwCl [(xo, .inr (2, [.int (nI k), .ref ra, .ref rb, .int (nI rs), .ref sm, .ref hh, .ref ps, .ref pb])), (sm, .inr (1, [.ref so])), (so, .inl (cO, 3, .inr (.inr (.inr (.inr g))))), (r0, .inl (cI, 511, .inl R0)), (r1, .inl (cI, 511, .inl R1)), (r2, .inl (cI, 511, .inl R2)), (ra, .inl (cI, 256, .inl fA))] U.heap ∧ va_K (dC, dI) vwCl [(cI, .int), (cO, .array .int)] U ∧ va_D (fun _ => True) [(xo, .inr (2, [.int (nI k), .ref ra, .ref rb, .int (nI rs), .ref sm, .ref hh, .ref ps, .ref pb])), (sm, .inr (1, [.ref so])), (so, .inl (cO, 3, .inr (.inr (.inr (.inr g))))), (r0, .inl (cI, 511, .inl R0)), (r1, .inl (cI, 511, .inl R1)), (r2, .inl (cI, 511, .inl R2)), (ra, .inl (cI, 256, .inl fA))])) (q_L_keep_ok dC dI xo ra rb sm hh ps pb k rs cI cO so r0 r1 r2 g R0 R1 R2 fA (va_A [(xo, .inr (2, [.int (nI k), .ref ra, .ref rb, .int (nI rs), .ref sm, .ref hh, .ref ps, .ref pb])), (sm, .inr (1, [.ref so])), (so, .inl (cO, 3, .inr (.inr (.inr (.inr g))))), (r0, .inl (cI, 511, .inl R0)), (r1, .inl (cI, 511, .inl R1)), (r2, .inl (cI, 511, .inl R2)), (ra, .inl (cI, 256, .inl fA))] sz)) 0 0 (va_A [(xo, .inr (2, [.int (nI k), .ref ra, .ref rb, .int (nI rs), .ref sm, .ref hh, .ref ps, .ref pb])), (sm, .inr (1, [.ref so])), (so, .inl (cO, 3, .inr (.inr (.inr (.inr g))))), (r0, .inl (cI, 511, .inl R0)), (r1, .inl (cI, 511, .inl R1)), (r2, .inl (cI, 511, .inl R2)), (ra, .inl (cI, 256, .inl fA))] sz) := by
  refine va_MetW (cc := cL_keep) (maxL := 2) (ret := (some .int)) (hh := [(0, 4, 7, 56)]) (by decide) rfl ?_
  intro p e s m args below meth c s₁ B hml hv
  obtain ⟨rfl, hsz, hP, hK, hD0⟩ := hv
  have hx := B.exec
  have hb := B.bytes
  have hr := B.returns
  have hts := atoms_spec (ws := wsL_keep) B.pre
  have hown : s.vm.findClass RL = some m.cls := findClass_of_methodNamed B.named
  have hlocks := B.notSynchronized
  have htab := vx_table (x := yL_keep) B (hts (.codeWith yL_keep cL_keep 2 (some .int) [(0, 4, 7, 56)]) List.mem_cons_self)
  subst hsz
  have hD := hD0.self (sz := s.heap.size)
  generalize hAe : va_A [(xo, .inr (2, [.int (nI k), .ref ra, .ref rb, .int (nI rs), .ref sm, .ref hh, .ref ps, .ref pb])), (sm, .inr (1, [.ref so])), (so, .inl (cO, 3, .inr (.inr (.inr (.inr g))))), (r0, .inl (cI, 511, .inl R0)), (r1, .inl (cI, 511, .inl R1)), (r2, .inl (cI, 511, .inl R2)), (ra, .inl (cI, 256, .inl fA))] s.heap.size = A at hD ⊢
  have hA : ∀ q : Nat, s.heap.size ≤ q → A q := fun q h => by rw [← hAe]; exact Or.inr h
  have hS : va_S A s.heap s.heap [] := va_S.rf
  have hP : va_P (dC, dI) vwCl [(xo, .inr (2, [.int (nI k), .ref ra, .ref rb, .int (nI rs), .ref sm, .ref hh, .ref ps, .ref pb])), (sm, .inr (1, [.ref so])), (so, .inl (cO, 3, .inr (.inr (.inr (.inr g))))), (r0, .inl (cI, 511, .inl R0)), (r1, .inl (cI, 511, .inl R1)), (r2, .inl (cI, 511, .inl R2)), (ra, .inl (cI, 256, .inl fA))] s.heap := hP
  have hl := lv_entry (([.ref xo] : List Value)) (n := 2) (Nat.le_of_ble_eq_true rfl)
  rw [lg_entry_eq]
  generalize (lg_sl (([.ref xo] : List Value)) ++ List.replicate (2 - (lg_sl (([.ref xo] : List Value))).length) Slot.unset).toArray = ls at hl ⊢
  have hl : lv_has ls 2 [(0, .ref xo)] := hl
  obtain ⟨H, hHe⟩ : ∃ H : Heap, H = s.heap := ⟨_, rfl⟩
  rw [← hHe] at hP
  have hS : va_S A s.heap H [] := by rw [hHe]; exact hS
  obtain ⟨locs, hlo⟩ : ∃ L : List Loc, L = [] := ⟨_, rfl⟩
  rw [← hlo] at hS ⊢
  rw [← hHe]
  refine lv_aload_n hx hb dL_keep_0 rfl (lv_at hl 0 rfl) ?_
  have hPc := hP.sub (ws' := [(xo, .inr (2, [.int (nI k), .ref ra, .ref rb, .int (nI rs), .ref sm, .ref hh, .ref ps, .ref pb])), (sm, .inr (1, [.ref so])), (so, .inl (cO, 3, .inr (.inr (.inr (.inr g))))), (r0, .inl (cI, 511, .inl R0)), (r1, .inl (cI, 511, .inl R1)), (r2, .inl (cI, 511, .inl R2)), (ra, .inl (cI, 256, .inl fA))]) [0, 1, 2, 3, 4, 5, 6] rfl
  have hDc := hD.sub (ws' := [(xo, .inr (2, [.int (nI k), .ref ra, .ref rb, .int (nI rs), .ref sm, .ref hh, .ref ps, .ref pb])), (sm, .inr (1, [.ref so])), (so, .inl (cO, 3, .inr (.inr (.inr (.inr g))))), (r0, .inl (cI, 511, .inl R0)), (r1, .inl (cI, 511, .inl R1)), (r2, .inl (cI, 511, .inl R2)), (ra, .inl (cI, 256, .inl fA))]) [0, 1, 2, 3, 4, 5, 6] (by decide) rfl
  have hKc := hK.sub (tys' := [(cI, .int), (cO, .array .int)]) [0, 1] rfl
  have hFc := va_free (wc := [(xo, .inr (2, [.int (nI k), .ref ra, .ref rb, .int (nI rs), .ref sm, .ref hh, .ref ps, .ref pb])), (sm, .inr (1, [.ref so])), (so, .inl (cO, 3, .inr (.inr (.inr (.inr g))))), (r0, .inl (cI, 511, .inl R0)), (r1, .inl (cI, 511, .inl R1)), (r2, .inl (cI, 511, .inl R2)), (ra, .inl (cI, 256, .inl fA))]) hD hS hA [0, 1, 2, 3, 4, 5, 6] rfl
  refine va_callv (va_runV (As := []) (rest := []) ⟨hx, hb, hml, hown, hts⟩ (c_X3_keep_ok l dC dI xo ra rb sm hh ps pb k rs cI cO so r0 r1 r2 g R0 R1 R2 fA H.size zk1 zk hg0 hg1 hg2 zrs zrs2) (cwV 0 hts gL_keep_X3_keep rfl rfl rfl (by decide +kernel) ⟨Nat.le_of_ble_eq_true rfl, Nat.le_of_ble_eq_true rfl⟩) ⟨fun a U g mk q => by obtain ⟨q0, q1, qP, qK, qD⟩ := q; exact ⟨q0, q1, qP, va_K.moved (u := U) (U := U.calling g mk a) (Vm.Alike.refl U.vm) qK, qD⟩, va_recv hKc hPc (ci := 2) (q0 := 0) rfl rfl, fun U hU hW => ⟨rfl, by rw [hU], by rw [hU]; exact hPc, va_K.moved hW.alike hKc, hDc.weaken (fun _ _ _ _ => trivial)⟩⟩ rfl rfl hl.1 rfl (lv_room (Nat.le_of_ble_eq_true rfl)) dL_keep_1 ⟨Nat.le_of_ble_eq_true rfl, Nat.le_of_ble_eq_true rfl⟩) hS (fun q _ h => hFc q h) hFc (fun u9 t9 H1 locs ht hvm hw hB hz1 hk1 hS => ?_)
  obtain ⟨hP1, hD1⟩ := hB
  rw [ht] at hP1
  try dsimp only at hw
  obtain ⟨hP, hD⟩ := va_join (wr := []) (w1 := [(xo, .inr (2, [.int (nI k), .ref ra, .ref rb, .int (nI rs), .ref sm, .ref hh, .ref ps, .ref pb])), (sm, .inr (1, [.ref so])), (so, .inl (cO, 3, .inr (.inr (.inr (.inr g))))), (r0, .inl (cI, 511, .inl R0)), (r1, .inl (cI, 511, .inl R1)), (r2, .inl (cI, 511, .inl R2)), (ra, .inl (cI, 256, .inl (ctI fA R0 R1 R2 (2 ^ k))))]) hP hD [0, 1, 2, 3, 4, 5, 6] [] rfl rfl (by decide) (by decide) hk1 hFc hP1 hD1
  generalize H1 = H at hP hS ⊢
  have hP : va_P (dC, dI) vwCl [(xo, .inr (2, [.int (nI k), .ref ra, .ref rb, .int (nI rs), .ref sm, .ref hh, .ref ps, .ref pb])), (sm, .inr (1, [.ref so])), (so, .inl (cO, 3, .inr (.inr (.inr (.inr g))))), (r0, .inl (cI, 511, .inl R0)), (r1, .inl (cI, 511, .inl R1)), (r2, .inl (cI, 511, .inl R2)), (ra, .inl (cI, 256, .inl (ctI fA R0 R1 R2 (2 ^ k))))] H := hP
  have hD : va_D A [(xo, .inr (2, [.int (nI k), .ref ra, .ref rb, .int (nI rs), .ref sm, .ref hh, .ref ps, .ref pb])), (sm, .inr (1, [.ref so])), (so, .inl (cO, 3, .inr (.inr (.inr (.inr g))))), (r0, .inl (cI, 511, .inl R0)), (r1, .inl (cI, 511, .inl R1)), (r2, .inl (cI, 511, .inl R2)), (ra, .inl (cI, 256, .inl (ctI fA R0 R1 R2 (2 ^ k))))] := hD
  clear hPc hDc hKc hFc hP1 hD1 hk1 hz1 hvm ht
  clear hw
  refine lv_goto (tgt := 10) hx hb dL_keep_4 (by decide) ?_
  refine lv_iconst (v := nI 0) hx hb dL_keep_10 (by decide) ?_
  have hP9 : va_P (dC, dI) vwCl [(xo, .inr (2, [.int (nI k), .ref ra, .ref rb, .int (nI rs), .ref sm, .ref hh, .ref ps, .ref pb])), (sm, .inr (1, [.ref so])), (so, .inl (cO, 3, .inr (.inr (.inr (.inr g))))), (r0, .inl (cI, 511, .inl R0)), (r1, .inl (cI, 511, .inl R1)), (r2, .inl (cI, 511, .inl R2)), (ra, .inl (cI, 256, .inl (ctI fA R0 R1 R2 (2 ^ k))))] H := hP.sub [0, 1, 2, 3, 4, 5, 6] rfl
  have hD9 : va_D A [(xo, .inr (2, [.int (nI k), .ref ra, .ref rb, .int (nI rs), .ref sm, .ref hh, .ref ps, .ref pb])), (sm, .inr (1, [.ref so])), (so, .inl (cO, 3, .inr (.inr (.inr (.inr g))))), (r0, .inl (cI, 511, .inl R0)), (r1, .inl (cI, 511, .inl R1)), (r2, .inl (cI, 511, .inl R2)), (ra, .inl (cI, 256, .inl (ctI fA R0 R1 R2 (2 ^ k))))] := hD.sub [0, 1, 2, 3, 4, 5, 6] (by decide) rfl
  exact W.iret (v := nI 0) hx hb hr (fun tq9 ht hW => ⟨⟨nI 0, (), rfl, rfl, by rw [ht]; exact hP9, hD9⟩, hS.F ht⟩) hS.2.2 dL_keep_11

abbrev q_L_keep_bad (dC : Nat → ClassId) (dI : Nat → Nat → Nat) (xo ra rb sm hh ps pb k : Nat) (A : Nat → Prop) : Array Value → State → Outcome → State → Prop := va_Qi (fun (r : Int32) (u : Unit) => r = nI 1) (fun u t => va_P (dC, dI) vwCl [(xo, .inr (2, [.int (nI k), .ref ra, .ref rb, .int (nI 0), .ref sm, .ref hh, .ref ps, .ref pb]))] t.heap ∧ va_D A [(xo, .inr (2, [.int (nI k), .ref ra, .ref rb, .int (nI 0), .ref sm, .ref hh, .ref ps, .ref pb]))]) A
set_option maxHeartbeats 4000000 in
set_option maxRecDepth 100000 in
theorem c_L_keep_bad (l : Launch) (dC : Nat → ClassId) (dI : Nat → Nat → Nat) (xo ra rb sm hh ps pb k : Nat) (sz : Nat) (tP : Nat) (sa : Nat → Nat) (hl9 : l.stackTraces = false) : Met l yL_keep wsL_keep ({ frames := 7, cells := 1, slots := 6, locals := 102 }) (va_Pc [.ref xo] (fun U => U.heap.size = sz ∧ va_P (dC, dI) vwCl [(xo, .inr (2, [.int (nI k), .ref ra, .ref rb, .int (nI 0), .ref sm, .ref hh, .ref ps, .ref pb]))] U.heap ∧ va_K (dC, dI) vwCl [] U ∧ va_D (fun _ => True) [(xo, .inr (2, [.int (nI k), .ref ra, .ref rb, .int (nI 0), .ref sm, .ref hh, .ref ps, .ref pb]))] ∧ amb tP sa (va_A [(xo, .inr (2, [.int (nI k), .ref ra, .ref rb, .int (nI 0), .ref sm, .ref hh, .ref ps, .ref pb]))] sz) U U.heap)) (q_L_keep_bad dC dI xo ra rb sm hh ps pb k (va_A [(xo, .inr (2, [.int (nI k), .ref ra, .ref rb, .int (nI 0), .ref sm, .ref hh, .ref ps, .ref pb]))] sz)) 1 6 (va_A [(xo, .inr (2, [.int (nI k), .ref ra, .ref rb, .int (nI 0), .ref sm, .ref hh, .ref ps, .ref pb]))] sz) := by
  refine va_MetW (cc := cL_keep) (maxL := 2) (ret := (some .int)) (hh := [(0, 4, 7, 56)]) (by decide) rfl ?_
  intro p e s m args below meth c s₁ B hml hv
  obtain ⟨rfl, hsz, hP, hK, hD0, hM⟩ := hv
  have hx := B.exec
  have hb := B.bytes
  have hr := B.returns
  have hts := atoms_spec (ws := wsL_keep) B.pre
  have hown : s.vm.findClass RL = some m.cls := findClass_of_methodNamed B.named
  have hlocks := B.notSynchronized
  have htab := vx_table (x := yL_keep) B (hts (.codeWith yL_keep cL_keep 2 (some .int) [(0, 4, 7, 56)]) List.mem_cons_self)
  subst hsz
  have hD := hD0.self (sz := s.heap.size)
  generalize hAe : va_A [(xo, .inr (2, [.int (nI k), .ref ra, .ref rb, .int (nI 0), .ref sm, .ref hh, .ref ps, .ref pb]))] s.heap.size = A at hD hM ⊢
  have hA : ∀ q : Nat, s.heap.size ≤ q → A q := fun q h => by rw [← hAe]; exact Or.inr h
  have hS : va_S A s.heap s.heap [] := va_S.rf
  have hP : va_P (dC, dI) vwCl [(xo, .inr (2, [.int (nI k), .ref ra, .ref rb, .int (nI 0), .ref sm, .ref hh, .ref ps, .ref pb]))] s.heap := hP
  have hl := lv_entry (([.ref xo] : List Value)) (n := 2) (Nat.le_of_ble_eq_true rfl)
  rw [lg_entry_eq]
  generalize (lg_sl (([.ref xo] : List Value)) ++ List.replicate (2 - (lg_sl (([.ref xo] : List Value))).length) Slot.unset).toArray = ls at hl ⊢
  have hl : lv_has ls 2 [(0, .ref xo)] := hl
  obtain ⟨H, hHe⟩ : ∃ H : Heap, H = s.heap := ⟨_, rfl⟩
  rw [← hHe] at hP
  have hS : va_S A s.heap H [] := by rw [hHe]; exact hS
  obtain ⟨locs, hlo⟩ : ∃ L : List Loc, L = [] := ⟨_, rfl⟩
  rw [← hlo] at hS ⊢
  rw [← hHe]
  refine lv_aload_n hx hb dL_keep_0 rfl (lv_at hl 0 rfl) ?_
  have hPc := hP.sub (ws' := [(xo, .inr (2, [.int (nI k), .ref ra, .ref rb, .int (nI 0), .ref sm, .ref hh, .ref ps, .ref pb]))]) [0] rfl
  have hDc := hD.sub (ws' := [(xo, .inr (2, [.int (nI k), .ref ra, .ref rb, .int (nI 0), .ref sm, .ref hh, .ref ps, .ref pb]))]) [0] (by decide) rfl
  have hKc := hK.sub (tys' := []) [] rfl
  have hFc := va_free (wc := [(xo, .inr (2, [.int (nI k), .ref ra, .ref rb, .int (nI 0), .ref sm, .ref hh, .ref ps, .ref pb]))]) hD hS hA [0] rfl
  refine vx_callv (vx_runV (As := []) (rest := []) ⟨hx, hb, hml, hown, hts⟩ (c_X3_keep_bad l dC dI xo ra rb sm hh ps pb k H.size hl9 tP sa ) (cwV 0 hts gL_keep_X3_keep rfl rfl rfl (by decide +kernel) ⟨Nat.le_of_ble_eq_true rfl, Nat.le_of_ble_eq_true rfl⟩) ⟨fun a U g mk q => by obtain ⟨q0, q1, qP, qK, qD, qM⟩ := q; exact ⟨q0, q1, qP, va_K.moved (u := U) (U := U.calling g mk a) (Vm.Alike.refl U.vm) qK, qD, amb_same (U := U) (U' := U.calling g mk a) rfl rfl qM⟩, va_recv hKc hPc (ci := 2) (q0 := 0) rfl rfl, fun U hU hW => ⟨rfl, by rw [hU], by rw [hU]; exact hPc, va_K.moved hW.alike hKc, hDc.weaken (fun _ _ _ _ => trivial), amb_pass hM hS hFc hW hU⟩⟩ rfl rfl hl.1 rfl (lv_room (Nat.le_of_ble_eq_true rfl)) dL_keep_1 ⟨Nat.le_of_ble_eq_true rfl, Nat.le_of_ble_eq_true rfl⟩) hS (fun q _ h => hFc q h) hFc (fun q _ h => hFc q h) (fun E9 ce9 q9 u9 t9 H1 locs ht hvm hw hB hz1 hk1 hS hce hcv hcl => ?_) (fun u9 t9 H1 locs ht hvm hw hB hz1 hk1 hS => ?_)
  · obtain ⟨hxp, hP1, hD1⟩ := hB
    rw [ht] at hP1
    obtain ⟨hP, hD⟩ := va_join (wr := []) (w1 := [(xo, .inr (2, [.int (nI k), .ref ra, .ref rb, .int (nI 0), .ref sm, .ref hh, .ref ps, .ref pb]))]) hP hD [0] [] rfl rfl (by decide) (by decide) hk1 hFc hP1 hD1
    subst hxp
    refine vx_catch (own := RL) (name := "java/lang/IllegalStateException") hown [] ⟨0, 4, 7, 56⟩ [] (htab.trans rfl) (fun z hz => (List.not_mem_nil hz).elim) (by decide) (by decide) (hts (.classLink RL 56 "java/lang/IllegalStateException") (by decide +kernel)) (va_tabs rfl rfl (hM.2.2.1 (.castable "java/lang/IllegalStateException" "java/lang/IllegalStateException") (by decide +kernel))) hce hcv hcl ?_
    clear hce
    generalize H1 = H at hP hS ⊢
    have hP : va_P (dC, dI) vwCl [(xo, .inr (2, [.int (nI k), .ref ra, .ref rb, .int (nI 0), .ref sm, .ref hh, .ref ps, .ref pb]))] H := hP
    have hD : va_D A [(xo, .inr (2, [.int (nI k), .ref ra, .ref rb, .int (nI 0), .ref sm, .ref hh, .ref ps, .ref pb]))] := hD
    refine W.widen (k := 1) (n := 6) (by omega) (by omega) ?_
    refine W.eq (g2 := F0 m 7 ls [.ref q9]) rfl ?_
    refine lv_astore_n (lv' := [(1, .ref q9), (0, .ref xo)]) hx hb dL_keep_7 rfl hl (by decide) rfl (fun ls hl => ?_)
    refine lv_iconst (v := nI 1) hx hb dL_keep_8 (by decide) ?_
    have hP9 : va_P (dC, dI) vwCl [(xo, .inr (2, [.int (nI k), .ref ra, .ref rb, .int (nI 0), .ref sm, .ref hh, .ref ps, .ref pb]))] H := hP.sub [0] rfl
    have hD9 : va_D A [(xo, .inr (2, [.int (nI k), .ref ra, .ref rb, .int (nI 0), .ref sm, .ref hh, .ref ps, .ref pb]))] := hD.sub [0] (by decide) rfl
    exact W.iret (v := nI 1) hx hb hr (fun tq9 ht hW => ⟨⟨nI 1, (), rfl, rfl, by rw [ht]; exact hP9, hD9⟩, hS.F ht⟩) hS.2.2 dL_keep_9
  exact hw.elim

abbrev q_L_product_ok (dC : Nat → ClassId) (dI : Nat → Nat → Nat) (xo ra rb sm hh ps pb k rs : Nat) (q : Nat) (x y : Int32) (oa : Nat) (cJ : ClassId) (FO : Nat → Int) (A : Nat → Prop) : Array Value → State → Outcome → State → Prop := va_Qi (fun (r : Int32) (u : Unit) => r = nI 0) (fun u t => va_P (dC, dI) vwCl [(xo, .inr (2, [.int (nI k), .ref ra, .ref rb, .int (nI rs), .ref sm, .ref hh, .ref ps, .ref pb])), (oa, .inl (cJ, 1, .inr (.inl (fun t9 => lI ((upI FO 0 ((iI (x.toInt * y.toInt % (prN q : Int))).toInt)) t9)))))] t.heap ∧ va_D A [(xo, .inr (2, [.int (nI k), .ref ra, .ref rb, .int (nI rs), .ref sm, .ref hh, .ref ps, .ref pb])), (oa, .inl (cJ, 1, .inr (.inl (fun t9 => lI ((upI FO 0 ((iI (x.toInt * y.toInt % (prN q : Int))).toInt)) t9)))))]) A
set_option maxHeartbeats 4000000 in
set_option maxRecDepth 100000 in
theorem c_L_product_ok (l : Launch) (dC : Nat → ClassId) (dI : Nat → Nat → Nat) (xo ra rb sm hh ps pb k rs : Nat) (q : Nat) (x y : Int32) (oa : Nat) (cJ : ClassId) (FO : Nat → Int) (sz : Nat) (tP : Nat) (sa : Nat → Nat) (zq : q < 3) : Met l yL_product wsL_product ({ frames := 2, cells := 0, slots := 0, locals := 47 }) (va_Pc [.ref xo, .int (nI q), .int x, .int y, .ref oa] (fun U => U.heap.size = sz ∧ va_P (dC, dI) vwCl [(xo, .inr (2, [.int (nI k), .ref ra, .ref rb, .int (nI rs), .ref sm, .ref hh, .ref ps, .ref pb])), (oa, .inl (cJ, 1, .inr (.inl (fun t9 => lI (FO t9)))))] U.heap ∧ va_K (dC, dI) vwCl [(cJ, .long)] U ∧ va_D (fun _ => True) [(xo, .inr (2, [.int (nI k), .ref ra, .ref rb, .int (nI rs), .ref sm, .ref hh, .ref ps, .ref pb])), (oa, .inl (cJ, 1, .inr (.inl (fun t9 => lI (FO t9)))))] ∧ amb tP sa (va_A [(xo, .inr (2, [.int (nI k), .ref ra, .ref rb, .int (nI rs), .ref sm, .ref hh, .ref ps, .ref pb])), (oa, .inl (cJ, 1, .inr (.inl (fun t9 => lI (FO t9)))))] sz) U U.heap)) (q_L_product_ok dC dI xo ra rb sm hh ps pb k rs q x y oa cJ FO (va_A [(xo, .inr (2, [.int (nI k), .ref ra, .ref rb, .int (nI rs), .ref sm, .ref hh, .ref ps, .ref pb])), (oa, .inl (cJ, 1, .inr (.inl (fun t9 => lI (FO t9)))))] sz)) 0 0 (va_A [(xo, .inr (2, [.int (nI k), .ref ra, .ref rb, .int (nI rs), .ref sm, .ref hh, .ref ps, .ref pb])), (oa, .inl (cJ, 1, .inr (.inl (fun t9 => lI (FO t9)))))] sz) := by
  refine va_MetW (cc := cL_product) (maxL := 6) (ret := (some .int)) (hh := [(0, 12, 15, 13)]) (by decide) rfl ?_
  intro p e s m args below meth c s₁ B hml hv
  obtain ⟨rfl, hsz, hP, hK, hD0, hM⟩ := hv
  have hx := B.exec
  have hb := B.bytes
  have hr := B.returns
  have hts := atoms_spec (ws := wsL_product) B.pre
  have hown : s.vm.findClass RL = some m.cls := findClass_of_methodNamed B.named
  have hlocks := B.notSynchronized
  have htab := vx_table (x := yL_product) B (hts (.codeWith yL_product cL_product 6 (some .int) [(0, 12, 15, 13)]) List.mem_cons_self)
  subst hsz
  have hD := hD0.self (sz := s.heap.size)
  generalize hAe : va_A [(xo, .inr (2, [.int (nI k), .ref ra, .ref rb, .int (nI rs), .ref sm, .ref hh, .ref ps, .ref pb])), (oa, .inl (cJ, 1, .inr (.inl (fun t9 => lI (FO t9)))))] s.heap.size = A at hD hM ⊢
  have hA : ∀ q : Nat, s.heap.size ≤ q → A q := fun q h => by rw [← hAe]; exact Or.inr h
  have hS : va_S A s.heap s.heap [] := va_S.rf
  have hP : va_P (dC, dI) vwCl [(xo, .inr (2, [.int (nI k), .ref ra, .ref rb, .int (nI rs), .ref sm, .ref hh, .ref ps, .ref pb])), (oa, .inl (cJ, 1, .inr (.inl (fun t9 => lI (FO t9)))))] s.heap := hP
  have hl := lv_entry (([.ref xo, .int (nI q), .int x, .int y, .ref oa] : List Value)) (n := 6) (Nat.le_of_ble_eq_true rfl)
  rw [lg_entry_eq]
  generalize (lg_sl (([.ref xo, .int (nI q), .int x, .int y, .ref oa] : List Value)) ++ List.replicate (6 - (lg_sl (([.ref xo, .int (nI q), .int x, .int y, .ref oa] : List Value))).length) Slot.unset).toArray = ls at hl ⊢
  have hl : lv_has ls 6 [(0, .ref xo), (1, .int (nI q)), (2, .int x), (3, .int y), (4, .ref oa)] := hl
  obtain ⟨H, hHe⟩ : ∃ H : Heap, H = s.heap := ⟨_, rfl⟩
  rw [← hHe] at hP
  have hS : va_S A s.heap H [] := by rw [hHe]; exact hS
  obtain ⟨locs, hlo⟩ : ∃ L : List Loc, L = [] := ⟨_, rfl⟩
  rw [← hlo] at hS ⊢
  rw [← hHe]
  refine lv_aload hx hb dL_product_0 (lv_at hl 4 rfl) ?_
  refine lv_iconst (v := nI 0) hx hb dL_product_2 (by decide) ?_
  refine lv_aload_n hx hb dL_product_3 rfl (lv_at hl 0 rfl) ?_
  refine lv_iload_n hx hb dL_product_4 rfl (lv_at hl 1 rfl) ?_
  refine lv_iload_n hx hb dL_product_5 rfl (lv_at hl 2 rfl) ?_
  refine lv_iload_n hx hb dL_product_6 rfl (lv_at hl 3 rfl) ?_
  have hPc := hP.sub (ws' := [(xo, .inr (2, [.int (nI k), .ref ra, .ref rb, .int (nI rs), .ref sm, .ref hh, .ref ps, .ref pb]))]) [0] rfl
  have hDc := hD.sub (ws' := [(xo, .inr (2, [.int (nI k), .ref ra, .ref rb, .int (nI rs), .ref sm, .ref hh, .ref ps, .ref pb]))]) [0] (by decide) rfl
  have hKc := hK.sub (tys' := []) [] rfl
  have hFc := va_free (wc := [(xo, .inr (2, [.int (nI k), .ref ra, .ref rb, .int (nI rs), .ref sm, .ref hh, .ref ps, .ref pb]))]) hD hS hA [0] rfl
  refine va_calli (va_runV (As := [.int (nI q), .int x, .int y]) (rest := [.int (nI 0), .ref oa]) ⟨hx, hb, hml, hown, hts⟩ (c_X3_product_ok l dC dI xo ra rb sm hh ps pb k rs q x y H.size tP sa zq) (cwV 3 hts gL_product_X3_product rfl rfl rfl (by decide +kernel) ⟨Nat.le_of_ble_eq_true rfl, Nat.le_of_ble_eq_true rfl⟩) ⟨fun a U g mk q => by obtain ⟨q0, q1, qP, qK, qD, qM⟩ := q; exact ⟨q0, q1, qP, va_K.moved (u := U) (U := U.calling g mk a) (Vm.Alike.refl U.vm) qK, qD, amb_same (U := U) (U' := U.calling g mk a) rfl rfl qM⟩, va_recv hKc hPc (ci := 2) (q0 := 0) rfl rfl, fun U hU hW => ⟨rfl, by rw [hU], by rw [hU]; exact hPc, va_K.moved hW.alike hKc, hDc.weaken (fun _ _ _ _ => trivial), amb_pass hM hS hFc hW hU⟩⟩ rfl rfl hl.1 rfl (lv_room (Nat.le_of_ble_eq_true rfl)) dL_product_7 ⟨Nat.le_of_ble_eq_true rfl, Nat.le_of_ble_eq_true rfl⟩) hS (fun q _ h => hFc q h) hFc (fun r9 u9 t9 H1 locs ht hvm hw hB hz1 hk1 hS => ?_)
  obtain ⟨hP1, hD1⟩ := hB
  rw [ht] at hP1
  try dsimp only at hw
  obtain ⟨hP, hD⟩ := va_join (wr := [(oa, .inl (cJ, 1, .inr (.inl (fun t9 => lI (FO t9)))))]) (w1 := [(xo, .inr (2, [.int (nI k), .ref ra, .ref rb, .int (nI rs), .ref sm, .ref hh, .ref ps, .ref pb]))]) hP hD [0] [1] rfl rfl (by decide) (by decide) hk1 hFc hP1 hD1
  generalize H1 = H at hP hS ⊢
  have hP : va_P (dC, dI) vwCl [(oa, .inl (cJ, 1, .inr (.inl (fun t9 => lI (FO t9))))), (xo, .inr (2, [.int (nI k), .ref ra, .ref rb, .int (nI rs), .ref sm, .ref hh, .ref ps, .ref pb]))] H := hP
  have hD : va_D A [(oa, .inl (cJ, 1, .inr (.inl (fun t9 => lI (FO t9))))), (xo, .inr (2, [.int (nI k), .ref ra, .ref rb, .int (nI rs), .ref sm, .ref hh, .ref ps, .ref pb]))] := hD
  clear hPc hDc hKc hFc hP1 hD1 hk1 hz1 hvm ht
  subst hw
  refine lv_i2l (v := lI ((iI (x.toInt * y.toInt % (prN q : Int))).toInt)) hx hb dL_product_10 (i2l_I (iI (x.toInt * y.toInt % (prN q : Int)))) ?_
  refine va_last hx hb hK hP hD hS 0 0 rfl rfl (vp_in_nI (by omega) (by omega)) dL_product_11 (fun H locs hP hD hS => ?_)
  rw [nI_clamp (show 0 < 2 ^ 31 by omega)] at hP hD
  rw [upI_l] at hP hD
  have hP : va_P (dC, dI) vwCl [(oa, .inl (cJ, 1, .inr (.inl (fun t9 => lI ((upI FO 0 ((iI (x.toInt * y.toInt % (prN q : Int))).toInt)) t9))))), (xo, .inr (2, [.int (nI k), .ref ra, .ref rb, .int (nI rs), .ref sm, .ref hh, .ref ps, .ref pb]))] H := hP
  have hD : va_D A [(oa, .inl (cJ, 1, .inr (.inl (fun t9 => lI ((upI FO 0 ((iI (x.toInt * y.toInt % (prN q : Int))).toInt)) t9))))), (xo, .inr (2, [.int (nI k), .ref ra, .ref rb, .int (nI rs), .ref sm, .ref hh, .ref ps, .ref pb]))] := hD
  refine lv_goto (tgt := 19) hx hb dL_product_12 (by decide) ?_
  refine lv_iconst (v := nI 0) hx hb dL_product_19 (by decide) ?_
  have hP9 : va_P (dC, dI) vwCl [(xo, .inr (2, [.int (nI k), .ref ra, .ref rb, .int (nI rs), .ref sm, .ref hh, .ref ps, .ref pb])), (oa, .inl (cJ, 1, .inr (.inl (fun t9 => lI ((upI FO 0 ((iI (x.toInt * y.toInt % (prN q : Int))).toInt)) t9)))))] H := hP.sub [1, 0] rfl
  have hD9 : va_D A [(xo, .inr (2, [.int (nI k), .ref ra, .ref rb, .int (nI rs), .ref sm, .ref hh, .ref ps, .ref pb])), (oa, .inl (cJ, 1, .inr (.inl (fun t9 => lI ((upI FO 0 ((iI (x.toInt * y.toInt % (prN q : Int))).toInt)) t9)))))] := hD.sub [1, 0] (by decide) rfl
  exact W.iret (v := nI 0) hx hb hr (fun tq9 ht hW => ⟨⟨nI 0, (), rfl, rfl, by rw [ht]; exact hP9, hD9⟩, hS.F ht⟩) hS.2.2 dL_product_20

abbrev q_L_product_bad (dC : Nat → ClassId) (dI : Nat → Nat → Nat) (xo ra rb sm hh ps pb k rs : Nat) (i x y : Int32) (oa : Nat) (A : Nat → Prop) : Array Value → State → Outcome → State → Prop := va_Qi (fun (r : Int32) (u : Unit) => r = nI 1) (fun u t => va_P (dC, dI) vwCl [(xo, .inr (2, [.int (nI k), .ref ra, .ref rb, .int (nI rs), .ref sm, .ref hh, .ref ps, .ref pb]))] t.heap ∧ va_D A [(xo, .inr (2, [.int (nI k), .ref ra, .ref rb, .int (nI rs), .ref sm, .ref hh, .ref ps, .ref pb]))]) A
set_option maxHeartbeats 4000000 in
set_option maxRecDepth 100000 in
theorem c_L_product_bad (l : Launch) (dC : Nat → ClassId) (dI : Nat → Nat → Nat) (xo ra rb sm hh ps pb k rs : Nat) (i x y : Int32) (oa : Nat) (sz : Nat) (tP : Nat) (sa : Nat → Nat) (hl9 : l.stackTraces = false) (hbad : i < 0 ∨ nI 3 ≤ i) : Met l yL_product wsL_product ({ frames := 8, cells := 1, slots := 6, locals := 126 }) (va_Pc [.ref xo, .int i, .int x, .int y, .ref oa] (fun U => U.heap.size = sz ∧ va_P (dC, dI) vwCl [(xo, .inr (2, [.int (nI k), .ref ra, .ref rb, .int (nI rs), .ref sm, .ref hh, .ref ps, .ref pb]))] U.heap ∧ va_K (dC, dI) vwCl [] U ∧ va_D (fun _ => True) [(xo, .inr (2, [.int (nI k), .ref ra, .ref rb, .int (nI rs), .ref sm, .ref hh, .ref ps, .ref pb]))] ∧ amb tP sa (va_A [(xo, .inr (2, [.int (nI k), .ref ra, .ref rb, .int (nI rs), .ref sm, .ref hh, .ref ps, .ref pb]))] sz) U U.heap)) (q_L_product_bad dC dI xo ra rb sm hh ps pb k rs i x y oa (va_A [(xo, .inr (2, [.int (nI k), .ref ra, .ref rb, .int (nI rs), .ref sm, .ref hh, .ref ps, .ref pb]))] sz)) 1 6 (va_A [(xo, .inr (2, [.int (nI k), .ref ra, .ref rb, .int (nI rs), .ref sm, .ref hh, .ref ps, .ref pb]))] sz) := by
  refine va_MetW (cc := cL_product) (maxL := 6) (ret := (some .int)) (hh := [(0, 12, 15, 13)]) (by decide) rfl ?_
  intro p e s m args below meth c s₁ B hml hv
  obtain ⟨rfl, hsz, hP, hK, hD0, hM⟩ := hv
  have hx := B.exec
  have hb := B.bytes
  have hr := B.returns
  have hts := atoms_spec (ws := wsL_product) B.pre
  have hown : s.vm.findClass RL = some m.cls := findClass_of_methodNamed B.named
  have hlocks := B.notSynchronized
  have htab := vx_table (x := yL_product) B (hts (.codeWith yL_product cL_product 6 (some .int) [(0, 12, 15, 13)]) List.mem_cons_self)
  subst hsz
  have hD := hD0.self (sz := s.heap.size)
  generalize hAe : va_A [(xo, .inr (2, [.int (nI k), .ref ra, .ref rb, .int (nI rs), .ref sm, .ref hh, .ref ps, .ref pb]))] s.heap.size = A at hD hM ⊢
  have hA : ∀ q : Nat, s.heap.size ≤ q → A q := fun q h => by rw [← hAe]; exact Or.inr h
  have hS : va_S A s.heap s.heap [] := va_S.rf
  have hP : va_P (dC, dI) vwCl [(xo, .inr (2, [.int (nI k), .ref ra, .ref rb, .int (nI rs), .ref sm, .ref hh, .ref ps, .ref pb]))] s.heap := hP
  have hl := lv_entry (([.ref xo, .int i, .int x, .int y, .ref oa] : List Value)) (n := 6) (Nat.le_of_ble_eq_true rfl)
  rw [lg_entry_eq]
  generalize (lg_sl (([.ref xo, .int i, .int x, .int y, .ref oa] : List Value)) ++ List.replicate (6 - (lg_sl (([.ref xo, .int i, .int x, .int y, .ref oa] : List Value))).length) Slot.unset).toArray = ls at hl ⊢
  have hl : lv_has ls 6 [(0, .ref xo), (1, .int i), (2, .int x), (3, .int y), (4, .ref oa)] := hl
  obtain ⟨H, hHe⟩ : ∃ H : Heap, H = s.heap := ⟨_, rfl⟩
  rw [← hHe] at hP
  have hS : va_S A s.heap H [] := by rw [hHe]; exact hS
  obtain ⟨locs, hlo⟩ : ∃ L : List Loc, L = [] := ⟨_, rfl⟩
  rw [← hlo] at hS ⊢
  rw [← hHe]
  refine lv_aload hx hb dL_product_0 (lv_at hl 4 rfl) ?_
  refine lv_iconst (v := nI 0) hx hb dL_product_2 (by decide) ?_
  refine lv_aload_n hx hb dL_product_3 rfl (lv_at hl 0 rfl) ?_
  refine lv_iload_n hx hb dL_product_4 rfl (lv_at hl 1 rfl) ?_
  refine lv_iload_n hx hb dL_product_5 rfl (lv_at hl 2 rfl) ?_
  refine lv_iload_n hx hb dL_product_6 rfl (lv_at hl 3 rfl) ?_
  have hPc := hP.sub (ws' := [(xo, .inr (2, [.int (nI k), .ref ra, .ref rb, .int (nI rs), .ref sm, .ref hh, .ref ps, .ref pb]))]) [0] rfl
  have hDc := hD.sub (ws' := [(xo, .inr (2, [.int (nI k), .ref ra, .ref rb, .int (nI rs), .ref sm, .ref hh, .ref ps, .ref pb]))]) [0] (by decide) rfl
  have hKc := hK.sub (tys' := []) [] rfl
  have hFc := va_free (wc := [(xo, .inr (2, [.int (nI k), .ref ra, .ref rb, .int (nI rs), .ref sm, .ref hh, .ref ps, .ref pb]))]) hD hS hA [0] rfl
  refine vx_calli (vx_runV (As := [.int i, .int x, .int y]) (rest := [.int (nI 0), .ref oa]) ⟨hx, hb, hml, hown, hts⟩ (c_X3_product_bad l dC dI xo ra rb sm hh ps pb k rs i x y H.size hl9 tP sa hbad) (cwV 3 hts gL_product_X3_product rfl rfl rfl (by decide +kernel) ⟨Nat.le_of_ble_eq_true rfl, Nat.le_of_ble_eq_true rfl⟩) ⟨fun a U g mk q => by obtain ⟨q0, q1, qP, qK, qD, qM⟩ := q; exact ⟨q0, q1, qP, va_K.moved (u := U) (U := U.calling g mk a) (Vm.Alike.refl U.vm) qK, qD, amb_same (U := U) (U' := U.calling g mk a) rfl rfl qM⟩, va_recv hKc hPc (ci := 2) (q0 := 0) rfl rfl, fun U hU hW => ⟨rfl, by rw [hU], by rw [hU]; exact hPc, va_K.moved hW.alike hKc, hDc.weaken (fun _ _ _ _ => trivial), amb_pass hM hS hFc hW hU⟩⟩ rfl rfl hl.1 rfl (lv_room (Nat.le_of_ble_eq_true rfl)) dL_product_7 ⟨Nat.le_of_ble_eq_true rfl, Nat.le_of_ble_eq_true rfl⟩) hS (fun q _ h => hFc q h) hFc (fun q _ h => hFc q h) (fun E9 ce9 q9 u9 t9 H1 locs ht hvm hw hB hz1 hk1 hS hce hcv hcl => ?_) (fun r9 u9 t9 H1 locs ht hvm hw hB hz1 hk1 hS => ?_)
  · obtain ⟨hxp, hP1, hD1⟩ := hB
    rw [ht] at hP1
    obtain ⟨hP, hD⟩ := va_join (wr := []) (w1 := [(xo, .inr (2, [.int (nI k), .ref ra, .ref rb, .int (nI rs), .ref sm, .ref hh, .ref ps, .ref pb]))]) hP hD [0] [] rfl rfl (by decide) (by decide) hk1 hFc hP1 hD1
    subst hxp
    refine vx_catch (own := RL) (name := "java/lang/IllegalArgumentException") hown [] ⟨0, 12, 15, 13⟩ [] (htab.trans rfl) (fun z hz => (List.not_mem_nil hz).elim) (by decide) (by decide) (hts (.classLink RL 13 "java/lang/IllegalArgumentException") (by decide +kernel)) (va_tabs rfl rfl (hM.2.2.1 (.castable "java/lang/IllegalArgumentException" "java/lang/IllegalArgumentException") (by decide +kernel))) hce hcv hcl ?_
    clear hce
    generalize H1 = H at hP hS ⊢
    have hP : va_P (dC, dI) vwCl [(xo, .inr (2, [.int (nI k), .ref ra, .ref rb, .int (nI rs), .ref sm, .ref hh, .ref ps, .ref pb]))] H := hP
    have hD : va_D A [(xo, .inr (2, [.int (nI k), .ref ra, .ref rb, .int (nI rs), .ref sm, .ref hh, .ref ps, .ref pb]))] := hD
    refine W.widen (k := 1) (n := 6) (by omega) (by omega) ?_
    refine W.eq (g2 := F0 m 15 ls [.ref q9]) rfl ?_
    refine lv_astore (lv' := [(5, .ref q9), (0, .ref xo), (1, .int i), (2, .int x), (3, .int y), (4, .ref oa)]) hx hb dL_product_15 hl (by decide) rfl (fun ls hl => ?_)
    refine lv_iconst (v := nI 1) hx hb dL_product_17 (by decide) ?_
    have hP9 : va_P (dC, dI) vwCl [(xo, .inr (2, [.int (nI k), .ref ra, .ref rb, .int (nI rs), .ref sm, .ref hh, .ref ps, .ref pb]))] H := hP.sub [0] rfl
    have hD9 : va_D A [(xo, .inr (2, [.int (nI k), .ref ra, .ref rb, .int (nI rs), .ref sm, .ref hh, .ref ps, .ref pb]))] := hD.sub [0] (by decide) rfl
    exact W.iret (v := nI 1) hx hb hr (fun tq9 ht hW => ⟨⟨nI 1, (), rfl, rfl, by rw [ht]; exact hP9, hD9⟩, hS.F ht⟩) hS.2.2 dL_product_18
  exact hw.elim

abbrev q_L_root_ok (dC : Nat → ClassId) (dI : Nat → Nat → Nat) (xo ra rb sm hh ps pb k rs : Nat) (q : Nat) (e9 : Int32) (oa : Nat) (cJ : ClassId) (FO : Nat → Int) (A : Nat → Prop) : Array Value → State → Outcome → State → Prop := va_Qi (fun (r : Int32) (u : Unit) => r = nI 0) (fun u t => va_P (dC, dI) vwCl [(xo, .inr (2, [.int (nI k), .ref ra, .ref rb, .int (nI rs), .ref sm, .ref hh, .ref ps, .ref pb])), (oa, .inl (cJ, 1, .inr (.inl (fun t9 => lI ((upI FO 0 ((iI (frW k (prN q) ^ ex32 e9 k % (prN q : Int))).toInt)) t9)))))] t.heap ∧ va_D A [(xo, .inr (2, [.int (nI k), .ref ra, .ref rb, .int (nI rs), .ref sm, .ref hh, .ref ps, .ref pb])), (oa, .inl (cJ, 1, .inr (.inl (fun t9 => lI ((upI FO 0 ((iI (frW k (prN q) ^ ex32 e9 k % (prN q : Int))).toInt)) t9)))))]) A
set_option maxHeartbeats 4000000 in
set_option maxRecDepth 100000 in
theorem c_L_root_ok (l : Launch) (dC : Nat → ClassId) (dI : Nat → Nat → Nat) (xo ra rb sm hh ps pb k rs : Nat) (q : Nat) (e9 : Int32) (oa : Nat) (cJ : ClassId) (FO : Nat → Int) (sz : Nat) (tP : Nat) (sa : Nat → Nat) (zk1 : 1 ≤ k) (zk : k ≤ 8) (zq : q < 3) : Met l yL_root wsL_root ({ frames := 4, cells := 0, slots := 0, locals := 94 }) (va_Pc [.ref xo, .int (nI q), .int e9, .ref oa] (fun U => U.heap.size = sz ∧ va_P (dC, dI) vwCl [(xo, .inr (2, [.int (nI k), .ref ra, .ref rb, .int (nI rs), .ref sm, .ref hh, .ref ps, .ref pb])), (oa, .inl (cJ, 1, .inr (.inl (fun t9 => lI (FO t9)))))] U.heap ∧ va_K (dC, dI) vwCl [(cJ, .long)] U ∧ va_D (fun _ => True) [(xo, .inr (2, [.int (nI k), .ref ra, .ref rb, .int (nI rs), .ref sm, .ref hh, .ref ps, .ref pb])), (oa, .inl (cJ, 1, .inr (.inl (fun t9 => lI (FO t9)))))] ∧ amb tP sa (va_A [(xo, .inr (2, [.int (nI k), .ref ra, .ref rb, .int (nI rs), .ref sm, .ref hh, .ref ps, .ref pb])), (oa, .inl (cJ, 1, .inr (.inl (fun t9 => lI (FO t9)))))] sz) U U.heap)) (q_L_root_ok dC dI xo ra rb sm hh ps pb k rs q e9 oa cJ FO (va_A [(xo, .inr (2, [.int (nI k), .ref ra, .ref rb, .int (nI rs), .ref sm, .ref hh, .ref ps, .ref pb])), (oa, .inl (cJ, 1, .inr (.inl (fun t9 => lI (FO t9)))))] sz)) 0 0 (va_A [(xo, .inr (2, [.int (nI k), .ref ra, .ref rb, .int (nI rs), .ref sm, .ref hh, .ref ps, .ref pb])), (oa, .inl (cJ, 1, .inr (.inl (fun t9 => lI (FO t9)))))] sz) := by
  refine va_MetW (cc := cL_root) (maxL := 5) (ret := (some .int)) (hh := [(0, 10, 13, 13)]) (by decide) rfl ?_
  intro p e s m args below meth c s₁ B hml hv
  obtain ⟨rfl, hsz, hP, hK, hD0, hM⟩ := hv
  have hx := B.exec
  have hb := B.bytes
  have hr := B.returns
  have hts := atoms_spec (ws := wsL_root) B.pre
  have hown : s.vm.findClass RL = some m.cls := findClass_of_methodNamed B.named
  have hlocks := B.notSynchronized
  have htab := vx_table (x := yL_root) B (hts (.codeWith yL_root cL_root 5 (some .int) [(0, 10, 13, 13)]) List.mem_cons_self)
  subst hsz
  have hD := hD0.self (sz := s.heap.size)
  generalize hAe : va_A [(xo, .inr (2, [.int (nI k), .ref ra, .ref rb, .int (nI rs), .ref sm, .ref hh, .ref ps, .ref pb])), (oa, .inl (cJ, 1, .inr (.inl (fun t9 => lI (FO t9)))))] s.heap.size = A at hD hM ⊢
  have hA : ∀ q : Nat, s.heap.size ≤ q → A q := fun q h => by rw [← hAe]; exact Or.inr h
  have hS : va_S A s.heap s.heap [] := va_S.rf
  have hP : va_P (dC, dI) vwCl [(xo, .inr (2, [.int (nI k), .ref ra, .ref rb, .int (nI rs), .ref sm, .ref hh, .ref ps, .ref pb])), (oa, .inl (cJ, 1, .inr (.inl (fun t9 => lI (FO t9)))))] s.heap := hP
  have hl := lv_entry (([.ref xo, .int (nI q), .int e9, .ref oa] : List Value)) (n := 5) (Nat.le_of_ble_eq_true rfl)
  rw [lg_entry_eq]
  generalize (lg_sl (([.ref xo, .int (nI q), .int e9, .ref oa] : List Value)) ++ List.replicate (5 - (lg_sl (([.ref xo, .int (nI q), .int e9, .ref oa] : List Value))).length) Slot.unset).toArray = ls at hl ⊢
  have hl : lv_has ls 5 [(0, .ref xo), (1, .int (nI q)), (2, .int e9), (3, .ref oa)] := hl
  obtain ⟨H, hHe⟩ : ∃ H : Heap, H = s.heap := ⟨_, rfl⟩
  rw [← hHe] at hP
  have hS : va_S A s.heap H [] := by rw [hHe]; exact hS
  obtain ⟨locs, hlo⟩ : ∃ L : List Loc, L = [] := ⟨_, rfl⟩
  rw [← hlo] at hS ⊢
  rw [← hHe]
  refine lv_aload_n hx hb dL_root_0 rfl (lv_at hl 3 rfl) ?_
  refine lv_iconst (v := nI 0) hx hb dL_root_1 (by decide) ?_
  refine lv_aload_n hx hb dL_root_2 rfl (lv_at hl 0 rfl) ?_
  refine lv_iload_n hx hb dL_root_3 rfl (lv_at hl 1 rfl) ?_
  refine lv_iload_n hx hb dL_root_4 rfl (lv_at hl 2 rfl) ?_
  have hPc := hP.sub (ws' := [(xo, .inr (2, [.int (nI k), .ref ra, .ref rb, .int (nI rs), .ref sm, .ref hh, .ref ps, .ref pb]))]) [0] rfl
  have hDc := hD.sub (ws' := [(xo, .inr (2, [.int (nI k), .ref ra, .ref rb, .int (nI rs), .ref sm, .ref hh, .ref ps, .ref pb]))]) [0] (by decide) rfl
  have hKc := hK.sub (tys' := []) [] rfl
  have hFc := va_free (wc := [(xo, .inr (2, [.int (nI k), .ref ra, .ref rb, .int (nI rs), .ref sm, .ref hh, .ref ps, .ref pb]))]) hD hS hA [0] rfl
  refine va_calli (va_runV (As := [.int (nI q), .int e9]) (rest := [.int (nI 0), .ref oa]) ⟨hx, hb, hml, hown, hts⟩ (c_X3_root_ok l dC dI xo ra rb sm hh ps pb k rs q e9 H.size tP sa zk1 zk zq) (cwV 2 hts gL_root_X3_root rfl rfl rfl (by decide +kernel) ⟨Nat.le_of_ble_eq_true rfl, Nat.le_of_ble_eq_true rfl⟩) ⟨fun a U g mk q => by obtain ⟨q0, q1, qP, qK, qD, qM⟩ := q; exact ⟨q0, q1, qP, va_K.moved (u := U) (U := U.calling g mk a) (Vm.Alike.refl U.vm) qK, qD, amb_same (U := U) (U' := U.calling g mk a) rfl rfl qM⟩, va_recv hKc hPc (ci := 2) (q0 := 0) rfl rfl, fun U hU hW => ⟨rfl, by rw [hU], by rw [hU]; exact hPc, va_K.moved hW.alike hKc, hDc.weaken (fun _ _ _ _ => trivial), amb_pass hM hS hFc hW hU⟩⟩ rfl rfl hl.1 rfl (lv_room (Nat.le_of_ble_eq_true rfl)) dL_root_5 ⟨Nat.le_of_ble_eq_true rfl, Nat.le_of_ble_eq_true rfl⟩) hS (fun q _ h => hFc q h) hFc (fun r9 u9 t9 H1 locs ht hvm hw hB hz1 hk1 hS => ?_)
  obtain ⟨hP1, hD1⟩ := hB
  rw [ht] at hP1
  try dsimp only at hw
  obtain ⟨hP, hD⟩ := va_join (wr := [(oa, .inl (cJ, 1, .inr (.inl (fun t9 => lI (FO t9)))))]) (w1 := [(xo, .inr (2, [.int (nI k), .ref ra, .ref rb, .int (nI rs), .ref sm, .ref hh, .ref ps, .ref pb]))]) hP hD [0] [1] rfl rfl (by decide) (by decide) hk1 hFc hP1 hD1
  generalize H1 = H at hP hS ⊢
  have hP : va_P (dC, dI) vwCl [(oa, .inl (cJ, 1, .inr (.inl (fun t9 => lI (FO t9))))), (xo, .inr (2, [.int (nI k), .ref ra, .ref rb, .int (nI rs), .ref sm, .ref hh, .ref ps, .ref pb]))] H := hP
  have hD : va_D A [(oa, .inl (cJ, 1, .inr (.inl (fun t9 => lI (FO t9))))), (xo, .inr (2, [.int (nI k), .ref ra, .ref rb, .int (nI rs), .ref sm, .ref hh, .ref ps, .ref pb]))] := hD
  clear hPc hDc hKc hFc hP1 hD1 hk1 hz1 hvm ht
  subst hw
  refine lv_i2l (v := lI ((iI (frW k (prN q) ^ ex32 e9 k % (prN q : Int))).toInt)) hx hb dL_root_8 (i2l_I (iI (frW k (prN q) ^ ex32 e9 k % (prN q : Int)))) ?_
  refine va_last hx hb hK hP hD hS 0 0 rfl rfl (vp_in_nI (by omega) (by omega)) dL_root_9 (fun H locs hP hD hS => ?_)
  rw [nI_clamp (show 0 < 2 ^ 31 by omega)] at hP hD
  rw [upI_l] at hP hD
  have hP : va_P (dC, dI) vwCl [(oa, .inl (cJ, 1, .inr (.inl (fun t9 => lI ((upI FO 0 ((iI (frW k (prN q) ^ ex32 e9 k % (prN q : Int))).toInt)) t9))))), (xo, .inr (2, [.int (nI k), .ref ra, .ref rb, .int (nI rs), .ref sm, .ref hh, .ref ps, .ref pb]))] H := hP
  have hD : va_D A [(oa, .inl (cJ, 1, .inr (.inl (fun t9 => lI ((upI FO 0 ((iI (frW k (prN q) ^ ex32 e9 k % (prN q : Int))).toInt)) t9))))), (xo, .inr (2, [.int (nI k), .ref ra, .ref rb, .int (nI rs), .ref sm, .ref hh, .ref ps, .ref pb]))] := hD
  refine lv_goto (tgt := 17) hx hb dL_root_10 (by decide) ?_
  refine lv_iconst (v := nI 0) hx hb dL_root_17 (by decide) ?_
  have hP9 : va_P (dC, dI) vwCl [(xo, .inr (2, [.int (nI k), .ref ra, .ref rb, .int (nI rs), .ref sm, .ref hh, .ref ps, .ref pb])), (oa, .inl (cJ, 1, .inr (.inl (fun t9 => lI ((upI FO 0 ((iI (frW k (prN q) ^ ex32 e9 k % (prN q : Int))).toInt)) t9)))))] H := hP.sub [1, 0] rfl
  have hD9 : va_D A [(xo, .inr (2, [.int (nI k), .ref ra, .ref rb, .int (nI rs), .ref sm, .ref hh, .ref ps, .ref pb])), (oa, .inl (cJ, 1, .inr (.inl (fun t9 => lI ((upI FO 0 ((iI (frW k (prN q) ^ ex32 e9 k % (prN q : Int))).toInt)) t9)))))] := hD.sub [1, 0] (by decide) rfl
  exact W.iret (v := nI 0) hx hb hr (fun tq9 ht hW => ⟨⟨nI 0, (), rfl, rfl, by rw [ht]; exact hP9, hD9⟩, hS.F ht⟩) hS.2.2 dL_root_18

abbrev q_L_root_bad (dC : Nat → ClassId) (dI : Nat → Nat → Nat) (xo ra rb sm hh ps pb k rs : Nat) (i v : Int32) (oa : Nat) (A : Nat → Prop) : Array Value → State → Outcome → State → Prop := va_Qi (fun (r : Int32) (u : Unit) => r = nI 1) (fun u t => va_P (dC, dI) vwCl [(xo, .inr (2, [.int (nI k), .ref ra, .ref rb, .int (nI rs), .ref sm, .ref hh, .ref ps, .ref pb]))] t.heap ∧ va_D A [(xo, .inr (2, [.int (nI k), .ref ra, .ref rb, .int (nI rs), .ref sm, .ref hh, .ref ps, .ref pb]))]) A
set_option maxHeartbeats 4000000 in
set_option maxRecDepth 100000 in
theorem c_L_root_bad (l : Launch) (dC : Nat → ClassId) (dI : Nat → Nat → Nat) (xo ra rb sm hh ps pb k rs : Nat) (i v : Int32) (oa : Nat) (sz : Nat) (tP : Nat) (sa : Nat → Nat) (hl9 : l.stackTraces = false) (hbad : i < 0 ∨ nI 3 ≤ i) : Met l yL_root wsL_root ({ frames := 8, cells := 1, slots := 6, locals := 125 }) (va_Pc [.ref xo, .int i, .int v, .ref oa] (fun U => U.heap.size = sz ∧ va_P (dC, dI) vwCl [(xo, .inr (2, [.int (nI k), .ref ra, .ref rb, .int (nI rs), .ref sm, .ref hh, .ref ps, .ref pb]))] U.heap ∧ va_K (dC, dI) vwCl [] U ∧ va_D (fun _ => True) [(xo, .inr (2, [.int (nI k), .ref ra, .ref rb, .int (nI rs), .ref sm, .ref hh, .ref ps, .ref pb]))] ∧ amb tP sa (va_A [(xo, .inr (2, [.int (nI k), .ref ra, .ref rb, .int (nI rs), .ref sm, .ref hh, .ref ps, .ref pb]))] sz) U U.heap)) (q_L_root_bad dC dI xo ra rb sm hh ps pb k rs i v oa (va_A [(xo, .inr (2, [.int (nI k), .ref ra, .ref rb, .int (nI rs), .ref sm, .ref hh, .ref ps, .ref pb]))] sz)) 1 6 (va_A [(xo, .inr (2, [.int (nI k), .ref ra, .ref rb, .int (nI rs), .ref sm, .ref hh, .ref ps, .ref pb]))] sz) := by
  refine va_MetW (cc := cL_root) (maxL := 5) (ret := (some .int)) (hh := [(0, 10, 13, 13)]) (by decide) rfl ?_
  intro p e s m args below meth c s₁ B hml hv
  obtain ⟨rfl, hsz, hP, hK, hD0, hM⟩ := hv
  have hx := B.exec
  have hb := B.bytes
  have hr := B.returns
  have hts := atoms_spec (ws := wsL_root) B.pre
  have hown : s.vm.findClass RL = some m.cls := findClass_of_methodNamed B.named
  have hlocks := B.notSynchronized
  have htab := vx_table (x := yL_root) B (hts (.codeWith yL_root cL_root 5 (some .int) [(0, 10, 13, 13)]) List.mem_cons_self)
  subst hsz
  have hD := hD0.self (sz := s.heap.size)
  generalize hAe : va_A [(xo, .inr (2, [.int (nI k), .ref ra, .ref rb, .int (nI rs), .ref sm, .ref hh, .ref ps, .ref pb]))] s.heap.size = A at hD hM ⊢
  have hA : ∀ q : Nat, s.heap.size ≤ q → A q := fun q h => by rw [← hAe]; exact Or.inr h
  have hS : va_S A s.heap s.heap [] := va_S.rf
  have hP : va_P (dC, dI) vwCl [(xo, .inr (2, [.int (nI k), .ref ra, .ref rb, .int (nI rs), .ref sm, .ref hh, .ref ps, .ref pb]))] s.heap := hP
  have hl := lv_entry (([.ref xo, .int i, .int v, .ref oa] : List Value)) (n := 5) (Nat.le_of_ble_eq_true rfl)
  rw [lg_entry_eq]
  generalize (lg_sl (([.ref xo, .int i, .int v, .ref oa] : List Value)) ++ List.replicate (5 - (lg_sl (([.ref xo, .int i, .int v, .ref oa] : List Value))).length) Slot.unset).toArray = ls at hl ⊢
  have hl : lv_has ls 5 [(0, .ref xo), (1, .int i), (2, .int v), (3, .ref oa)] := hl
  obtain ⟨H, hHe⟩ : ∃ H : Heap, H = s.heap := ⟨_, rfl⟩
  rw [← hHe] at hP
  have hS : va_S A s.heap H [] := by rw [hHe]; exact hS
  obtain ⟨locs, hlo⟩ : ∃ L : List Loc, L = [] := ⟨_, rfl⟩
  rw [← hlo] at hS ⊢
  rw [← hHe]
  refine lv_aload_n hx hb dL_root_0 rfl (lv_at hl 3 rfl) ?_
  refine lv_iconst (v := nI 0) hx hb dL_root_1 (by decide) ?_
  refine lv_aload_n hx hb dL_root_2 rfl (lv_at hl 0 rfl) ?_
  refine lv_iload_n hx hb dL_root_3 rfl (lv_at hl 1 rfl) ?_
  refine lv_iload_n hx hb dL_root_4 rfl (lv_at hl 2 rfl) ?_
  have hPc := hP.sub (ws' := [(xo, .inr (2, [.int (nI k), .ref ra, .ref rb, .int (nI rs), .ref sm, .ref hh, .ref ps, .ref pb]))]) [0] rfl
  have hDc := hD.sub (ws' := [(xo, .inr (2, [.int (nI k), .ref ra, .ref rb, .int (nI rs), .ref sm, .ref hh, .ref ps, .ref pb]))]) [0] (by decide) rfl
  have hKc := hK.sub (tys' := []) [] rfl
  have hFc := va_free (wc := [(xo, .inr (2, [.int (nI k), .ref ra, .ref rb, .int (nI rs), .ref sm, .ref hh, .ref ps, .ref pb]))]) hD hS hA [0] rfl
  refine vx_calli (vx_runV (As := [.int i, .int v]) (rest := [.int (nI 0), .ref oa]) ⟨hx, hb, hml, hown, hts⟩ (c_X3_root_bad l dC dI xo ra rb sm hh ps pb k rs i v H.size hl9 tP sa hbad) (cwV 2 hts gL_root_X3_root rfl rfl rfl (by decide +kernel) ⟨Nat.le_of_ble_eq_true rfl, Nat.le_of_ble_eq_true rfl⟩) ⟨fun a U g mk q => by obtain ⟨q0, q1, qP, qK, qD, qM⟩ := q; exact ⟨q0, q1, qP, va_K.moved (u := U) (U := U.calling g mk a) (Vm.Alike.refl U.vm) qK, qD, amb_same (U := U) (U' := U.calling g mk a) rfl rfl qM⟩, va_recv hKc hPc (ci := 2) (q0 := 0) rfl rfl, fun U hU hW => ⟨rfl, by rw [hU], by rw [hU]; exact hPc, va_K.moved hW.alike hKc, hDc.weaken (fun _ _ _ _ => trivial), amb_pass hM hS hFc hW hU⟩⟩ rfl rfl hl.1 rfl (lv_room (Nat.le_of_ble_eq_true rfl)) dL_root_5 ⟨Nat.le_of_ble_eq_true rfl, Nat.le_of_ble_eq_true rfl⟩) hS (fun q _ h => hFc q h) hFc (fun q _ h => hFc q h) (fun E9 ce9 q9 u9 t9 H1 locs ht hvm hw hB hz1 hk1 hS hce hcv hcl => ?_) (fun r9 u9 t9 H1 locs ht hvm hw hB hz1 hk1 hS => ?_)
  · obtain ⟨hxp, hP1, hD1⟩ := hB
    rw [ht] at hP1
    obtain ⟨hP, hD⟩ := va_join (wr := []) (w1 := [(xo, .inr (2, [.int (nI k), .ref ra, .ref rb, .int (nI rs), .ref sm, .ref hh, .ref ps, .ref pb]))]) hP hD [0] [] rfl rfl (by decide) (by decide) hk1 hFc hP1 hD1
    subst hxp
    refine vx_catch (own := RL) (name := "java/lang/IllegalArgumentException") hown [] ⟨0, 10, 13, 13⟩ [] (htab.trans rfl) (fun z hz => (List.not_mem_nil hz).elim) (by decide) (by decide) (hts (.classLink RL 13 "java/lang/IllegalArgumentException") (by decide +kernel)) (va_tabs rfl rfl (hM.2.2.1 (.castable "java/lang/IllegalArgumentException" "java/lang/IllegalArgumentException") (by decide +kernel))) hce hcv hcl ?_
    clear hce
    generalize H1 = H at hP hS ⊢
    have hP : va_P (dC, dI) vwCl [(xo, .inr (2, [.int (nI k), .ref ra, .ref rb, .int (nI rs), .ref sm, .ref hh, .ref ps, .ref pb]))] H := hP
    have hD : va_D A [(xo, .inr (2, [.int (nI k), .ref ra, .ref rb, .int (nI rs), .ref sm, .ref hh, .ref ps, .ref pb]))] := hD
    refine W.widen (k := 1) (n := 6) (by omega) (by omega) ?_
    refine W.eq (g2 := F0 m 13 ls [.ref q9]) rfl ?_
    refine lv_astore (lv' := [(4, .ref q9), (0, .ref xo), (1, .int i), (2, .int v), (3, .ref oa)]) hx hb dL_root_13 hl (by decide) rfl (fun ls hl => ?_)
    refine lv_iconst (v := nI 1) hx hb dL_root_15 (by decide) ?_
    have hP9 : va_P (dC, dI) vwCl [(xo, .inr (2, [.int (nI k), .ref ra, .ref rb, .int (nI rs), .ref sm, .ref hh, .ref ps, .ref pb]))] H := hP.sub [0] rfl
    have hD9 : va_D A [(xo, .inr (2, [.int (nI k), .ref ra, .ref rb, .int (nI rs), .ref sm, .ref hh, .ref ps, .ref pb]))] := hD.sub [0] (by decide) rfl
    exact W.iret (v := nI 1) hx hb hr (fun tq9 ht hW => ⟨⟨nI 1, (), rfl, rfl, by rw [ht]; exact hP9, hD9⟩, hS.F ht⟩) hS.2.2 dL_root_16
  exact hw.elim
