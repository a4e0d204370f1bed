theorem lI_zero : lI 0 = 0 := by decide +kernel
theorem new_J (cA : ClassId) (n : Nat) : vp_cell cA (n, .inr (.inl (fun j => lI ((fun _ => (0 : Int)) j)))) = arrV cA n (fun _ => defaultValue .long) := congrArg (arrV cA n) (funext fun _ => congrArg Value.long lI_zero)
theorem new_I (cA : ClassId) (n : Nat) : vp_cell cA (n, .inl (fun _ => 0)) = arrV cA n (fun _ => defaultValue .int) := rfl
abbrev q_X0_init (dC : Nat → ClassId) (dI : Nat → Nat → Nat) (cJ : ClassId) (hh : Nat) (A : Nat → Prop) : Array Value → State → Outcome → State → Prop := va_Qv (fun (u : Nat × Nat × Nat) => True) (fun u t => va_P (dC, dI) vwCl [(hh, .inr (0, [.ref u.1, .ref u.2.1, .ref u.2.2])), (u.1, .inl (cJ, 512, .inr (.inl (fun j => lI ((fun _ => (0 : Int)) j))))), (u.2.1, .inl (cJ, 512, .inr (.inl (fun j => lI ((fun _ => (0 : Int)) j))))), (u.2.2, .inl (cJ, 256, .inr (.inl (fun j => lI ((fun _ => (0 : Int)) j)))))] t.heap ∧ va_D A [(hh, .inr (0, [.ref u.1, .ref u.2.1, .ref u.2.2])), (u.1, .inl (cJ, 512, .inr (.inl (fun j => lI ((fun _ => (0 : Int)) j))))), (u.2.1, .inl (cJ, 512, .inr (.inl (fun j => lI ((fun _ => (0 : Int)) j))))), (u.2.2, .inl (cJ, 256, .inr (.inl (fun j => lI ((fun _ => (0 : Int)) j)))))]) A
set_option maxHeartbeats 4000000 in
set_option maxRecDepth 100000 in
theorem c_X0_init (l : Launch) (dC : Nat → ClassId) (dI : Nat → Nat → Nat) (cJ : ClassId) (hh : Nat) (sz : Nat) : Met l yX0_init wsX0_init ({ frames := 1, cells := 3, slots := 1280, locals := 12 }) (va_Pc [.ref hh, .int (nI 512)] (fun U => U.heap.size = sz ∧ va_P (dC, dI) vwCl [(hh, .inr (0, [.null, .null, .null]))] U.heap ∧ va_K (dC, dI) vwCl [(cJ, .long)] U ∧ va_D (fun _ => True) [(hh, .inr (0, [.null, .null, .null]))])) (q_X0_init dC dI cJ hh (va_A [(hh, .inr (0, [.null, .null, .null]))] sz)) 3 1280 (va_A [(hh, .inr (0, [.null, .null, .null]))] sz) := by
  refine Met.ofW (cc := cX0_init) (maxL := 2) (ret := none) (by decide) rfl ?_
  intro p e s m args below meth c s₁ B hml hv
  obtain ⟨rfl, hsz, hP, hK, hD0⟩ := hv
  have hx := B.exec
  have hb := B.bytes
  have hr := B.returns
  have hts := atoms_spec (ws := wsX0_init) B.pre
  have hown : s.vm.findClass RX0 = some m.cls := findClass_of_methodNamed B.named
  have hlocks := B.notSynchronized
  have hin : meth.name = "<init>" := (name_of_methodNamed B.named B.method).1
  subst hsz
  have hD := hD0.self (sz := s.heap.size)
  generalize hAe : va_A [(hh, .inr (0, [.null, .null, .null]))] s.heap.size = A at hD ⊢
  have hA : ∀ q : Nat, s.heap.size ≤ q → A q := fun q h => by rw [← hAe]; exact Or.inr h
  have hS : va_S A s.heap s.heap [] := va_S.rf
  have hP : va_P (dC, dI) vwCl [(hh, .inr (0, [.null, .null, .null]))] s.heap := hP
  have hl := lv_entry (([.ref hh, .int (nI 512)] : List Value)) (n := 2) (Nat.le_of_ble_eq_true rfl)
  rw [lg_entry_eq]
  generalize (lg_sl (([.ref hh, .int (nI 512)] : List Value)) ++ List.replicate (2 - (lg_sl (([.ref hh, .int (nI 512)] : List Value))).length) Slot.unset).toArray = ls at hl ⊢
  have hl : lv_has ls 2 [(0, .ref hh), (1, .int (nI 512))] := hl
  obtain ⟨H, hHe⟩ : ∃ H : Heap, H = s.heap := ⟨_, rfl⟩
  rw [← hHe] at hP
  have hS : va_S A s.heap H [] := by rw [hHe]; exact hS
  obtain ⟨locs, hlo⟩ : ∃ L : List Loc, L = [] := ⟨_, rfl⟩
  rw [← hlo] at hS ⊢
  rw [← hHe]
  refine lv_aload_n hx hb dX0_init_0 rfl (lv_at hl 0 rfl) ?_
  refine W.objInit hx hb hown (hts (.methodLink RX0 3 objectInit) (by decide +kernel)) (hts (.instanceMethod objectInit) (by decide +kernel)) (hts (.code objectInit ⟨#[0xb1]⟩ 1 none) (by decide +kernel)) rfl (by rw [hml]; exact hl.1) rfl dX0_init_1 (Nat.le_of_ble_eq_true rfl) (Nat.le_of_ble_eq_true rfl) ?_
  refine W.eq (g2 := F0 m 4 ls []) rfl ?_
  refine lv_aload_n hx hb dX0_init_4 rfl (lv_at hl 0 rfl) ?_
  refine lv_iload_n hx hb dX0_init_5 rfl (lv_at hl 1 rfl) ?_
  refine va_newa (atype := .long) (ty := .long) (N' := 512) (a0 := (512, .inr (.inl (fun j => lI ((fun _ => (0 : Int)) j))))) hx hb (hts (.arrayClass .long) (by decide +kernel)) rfl hK hP hD hS hA (fun cA9 => new_J cA9 512) (by decide) (by decide +kernel) (Nat.le_of_ble_eq_true rfl) (Nat.le_of_ble_eq_true rfl) (Nat.le_of_ble_eq_true rfl) dX0_init_6 (fun qa_1 cA9 H hK9 hP hD hS => ?_)
  have hcA : cA9 = cJ := Option.some.inj ((show s.vm.findClass ("[" ++ FieldType.toString .long) = some cA9 from (hK9.2 1 _ rfl).2).symm.trans (show s.vm.findClass ("[" ++ FieldType.toString .long) = some cJ from (hK9.2 0 _ rfl).2))
  rw [hcA] at hP hD
  clear hK9 hcA
  have hP : va_P (dC, dI) vwCl [(hh, .inr (0, [.null, .null, .null])), (qa_1, .inl (cJ, 512, .inr (.inl (fun j => lI ((fun _ => (0 : Int)) j)))))] H := hP
  have hD : va_D A [(hh, .inr (0, [.null, .null, .null])), (qa_1, .inl (cJ, 512, .inr (.inl (fun j => lI ((fun _ => (0 : Int)) j)))))] := hD
  refine W.widen (k := 1) (n := 512) (by omega) (by omega) ?_
  refine va_putF (D := (dC, dI)) (ci := 0) (v := .ref qa_1) (ty := .array .long) (C := RX0) (T := TX0) (N := 3) hx hb hts (by decide +kernel) tyX0 tyX0_ok nmX0 hown hK hP hD hS 0 rfl rfl 0 (by decide) (hts (.fieldLink RX0 9 "ThreePrimes$Folder" "left" "[J") (by decide +kernel)) (fun _ h9 => h9) rfl hin rfl (by decide +kernel) rfl rfl (Nat.le_of_ble_eq_true rfl) dX0_init_8 (fun H locs hP hD hS => ?_)
  have hP : va_P (dC, dI) vwCl [(hh, .inr (0, [.ref qa_1, .null, .null])), (qa_1, .inl (cJ, 512, .inr (.inl (fun j => lI ((fun _ => (0 : Int)) j)))))] H := hP
  have hD : va_D A [(hh, .inr (0, [.ref qa_1, .null, .null])), (qa_1, .inl (cJ, 512, .inr (.inl (fun j => lI ((fun _ => (0 : Int)) j)))))] := hD
  refine lv_aload_n hx hb dX0_init_11 rfl (lv_at hl 0 rfl) ?_
  refine lv_iload_n hx hb dX0_init_12 rfl (lv_at hl 1 rfl) ?_
  refine va_newa (atype := .long) (ty := .long) (N' := 512) (a0 := (512, .inr (.inl (fun j => lI ((fun _ => (0 : Int)) j))))) hx hb (hts (.arrayClass .long) (by decide +kernel)) rfl hK hP hD hS hA (fun cA9 => new_J cA9 512) (by decide) (by decide +kernel) (Nat.le_of_ble_eq_true rfl) (Nat.le_of_ble_eq_true rfl) (Nat.le_of_ble_eq_true rfl) dX0_init_13 (fun qa_2 cA9 H hK9 hP hD hS => ?_)
  have hcA : cA9 = cJ := Option.some.inj ((show s.vm.findClass ("[" ++ FieldType.toString .long) = some cA9 from (hK9.2 1 _ rfl).2).symm.trans (show s.vm.findClass ("[" ++ FieldType.toString .long) = some cJ from (hK9.2 0 _ rfl).2))
  rw [hcA] at hP hD
  clear hK9 hcA
  have hP : va_P (dC, dI) vwCl [(hh, .inr (0, [.ref qa_1, .null, .null])), (qa_1, .inl (cJ, 512, .inr (.inl (fun j => lI ((fun _ => (0 : Int)) j))))), (qa_2, .inl (cJ, 512, .inr (.inl (fun j => lI ((fun _ => (0 : Int)) j)))))] H := hP
  have hD : va_D A [(hh, .inr (0, [.ref qa_1, .null, .null])), (qa_1, .inl (cJ, 512, .inr (.inl (fun j => lI ((fun _ => (0 : Int)) j))))), (qa_2, .inl (cJ, 512, .inr (.inl (fun j => lI ((fun _ => (0 : Int)) j)))))] := hD
  refine W.widen (k := 2) (n := 1024) (by omega) (by omega) ?_
  refine va_putF (D := (dC, dI)) (ci := 0) (v := .ref qa_2) (ty := .array .long) (C := RX0) (T := TX0) (N := 3) hx hb hts (by decide +kernel) tyX0 tyX0_ok nmX0 hown hK hP hD hS 0 rfl rfl 1 (by decide) (hts (.fieldLink RX0 15 "ThreePrimes$Folder" "right" "[J") (by decide +kernel)) (fun _ h9 => h9) rfl hin rfl (by decide +kernel) rfl rfl (Nat.le_of_ble_eq_true rfl) dX0_init_15 (fun H locs hP hD hS => ?_)
  have hP : va_P (dC, dI) vwCl [(hh, .inr (0, [.ref qa_1, .ref qa_2, .null])), (qa_1, .inl (cJ, 512, .inr (.inl (fun j => lI ((fun _ => (0 : Int)) j))))), (qa_2, .inl (cJ, 512, .inr (.inl (fun j => lI ((fun _ => (0 : Int)) j)))))] H := hP
  have hD : va_D A [(hh, .inr (0, [.ref qa_1, .ref qa_2, .null])), (qa_1, .inl (cJ, 512, .inr (.inl (fun j => lI ((fun _ => (0 : Int)) j))))), (qa_2, .inl (cJ, 512, .inr (.inl (fun j => lI ((fun _ => (0 : Int)) j)))))] := hD
  refine lv_aload_n hx hb dX0_init_18 rfl (lv_at hl 0 rfl) ?_
  refine lv_iload_n hx hb dX0_init_19 rfl (lv_at hl 1 rfl) ?_
  refine lv_iconst (v := nI 2) hx hb dX0_init_20 (by decide) ?_
  refine lv_idiv hx hb dX0_init_21 (nI_ne0 (by omega) (by omega)) ?_
  refine W.eq (congrArg (fun z => F0 m _ ls (.int z :: _)) (show nI 512 / nI 2 = nI (512 / 2) from pk_div (by omega) (by omega) (by omega))) ?_
  refine W.eq (congrArg (fun z => F0 m _ ls (.int z :: _)) (show nI (512 / 2) = nI 256 from rfl)) ?_
  refine va_newa (atype := .long) (ty := .long) (N' := 256) (a0 := (256, .inr (.inl (fun j => lI ((fun _ => (0 : Int)) j))))) hx hb (hts (.arrayClass .long) (by decide +kernel)) rfl hK hP hD hS hA (fun cA9 => new_J cA9 256) (by decide) (by decide +kernel) (Nat.le_of_ble_eq_true rfl) (Nat.le_of_ble_eq_true rfl) (Nat.le_of_ble_eq_true rfl) dX0_init_22 (fun qa_3 cA9 H hK9 hP hD hS => ?_)
  have hcA : cA9 = cJ := Option.some.inj ((show s.vm.findClass ("[" ++ FieldType.toString .long) = some cA9 from (hK9.2 1 _ rfl).2).symm.trans (show s.vm.findClass ("[" ++ FieldType.toString .long) = some cJ from (hK9.2 0 _ rfl).2))
  rw [hcA] at hP hD
  clear hK9 hcA
  have hP : va_P (dC, dI) vwCl [(hh, .inr (0, [.ref qa_1, .ref qa_2, .null])), (qa_1, .inl (cJ, 512, .inr (.inl (fun j => lI ((fun _ => (0 : Int)) j))))), (qa_2, .inl (cJ, 512, .inr (.inl (fun j => lI ((fun _ => (0 : Int)) j))))), (qa_3, .inl (cJ, 256, .inr (.inl (fun j => lI ((fun _ => (0 : Int)) j)))))] H := hP
  have hD : va_D A [(hh, .inr (0, [.ref qa_1, .ref qa_2, .null])), (qa_1, .inl (cJ, 512, .inr (.inl (fun j => lI ((fun _ => (0 : Int)) j))))), (qa_2, .inl (cJ, 512, .inr (.inl (fun j => lI ((fun _ => (0 : Int)) j))))), (qa_3, .inl (cJ, 256, .inr (.inl (fun j => lI ((fun _ => (0 : Int)) j)))))] := hD
  refine W.widen (k := 3) (n := 1280) (by omega) (by omega) ?_
  refine va_putF (D := (dC, dI)) (ci := 0) (v := .ref qa_3) (ty := .array .long) (C := RX0) (T := TX0) (N := 3) hx hb hts (by decide +kernel) tyX0 tyX0_ok nmX0 hown hK hP hD hS 0 rfl rfl 2 (by decide) (hts (.fieldLink RX0 18 "ThreePrimes$Folder" "rootPowers" "[J") (by decide +kernel)) (fun _ h9 => h9) rfl hin rfl (by decide +kernel) rfl rfl (Nat.le_of_ble_eq_true rfl) dX0_init_24 (fun H locs hP hD hS => ?_)
  have hP : va_P (dC, dI) vwCl [(hh, .inr (0, [.ref qa_1, .ref qa_2, .ref qa_3])), (qa_1, .inl (cJ, 512, .inr (.inl (fun j => lI ((fun _ => (0 : Int)) j))))), (qa_2, .inl (cJ, 512, .inr (.inl (fun j => lI ((fun _ => (0 : Int)) j))))), (qa_3, .inl (cJ, 256, .inr (.inl (fun j => lI ((fun _ => (0 : Int)) j)))))] H := hP
  have hD : va_D A [(hh, .inr (0, [.ref qa_1, .ref qa_2, .ref qa_3])), (qa_1, .inl (cJ, 512, .inr (.inl (fun j => lI ((fun _ => (0 : Int)) j))))), (qa_2, .inl (cJ, 512, .inr (.inl (fun j => lI ((fun _ => (0 : Int)) j))))), (qa_3, .inl (cJ, 256, .inr (.inl (fun j => lI ((fun _ => (0 : Int)) j)))))] := hD
  have hP9 : va_P (dC, dI) vwCl [(hh, .inr (0, [.ref qa_1, .ref qa_2, .ref qa_3])), (qa_1, .inl (cJ, 512, .inr (.inl (fun j => lI ((fun _ => (0 : Int)) j))))), (qa_2, .inl (cJ, 512, .inr (.inl (fun j => lI ((fun _ => (0 : Int)) j))))), (qa_3, .inl (cJ, 256, .inr (.inl (fun j => lI ((fun _ => (0 : Int)) j)))))] H := hP.sub [0, 1, 2, 3] rfl
  have hD9 : va_D A [(hh, .inr (0, [.ref qa_1, .ref qa_2, .ref qa_3])), (qa_1, .inl (cJ, 512, .inr (.inl (fun j => lI ((fun _ => (0 : Int)) j))))), (qa_2, .inl (cJ, 512, .inr (.inl (fun j => lI ((fun _ => (0 : Int)) j))))), (qa_3, .inl (cJ, 256, .inr (.inl (fun j => lI ((fun _ => (0 : Int)) j)))))] := hD.sub [0, 1, 2, 3] (by decide) rfl
  exact W.vret hx hb hr (fun tq9 ht hW => ⟨⟨(qa_1, qa_2, qa_3), rfl, trivial, by rw [ht]; exact hP9, hD9⟩, hS.F ht⟩) hS.2.2 dX0_init_27

abbrev q_X4_init (dC : Nat → ClassId) (dI : Nat → Nat → Nat) (cI cJ : ClassId) (mo : Nat) (A : Nat → Prop) : Array Value → State → Outcome → State → Prop := va_Qv (fun (u : Nat × Nat × Nat × Nat × Nat × Nat × Nat) => True) (fun u t => va_P (dC, dI) vwCl [(mo, .inr (3, [.int 0, .int (nI (2 ^ 1)), .ref u.1, .ref u.2.1, .int (nI 0), .ref u.2.2.1, .ref u.2.2.2.1, .ref u.2.2.2.2.1, .ref u.2.2.2.2.2.1, .ref u.2.2.2.2.2.2])), (u.1, .inl (cI, 256, .inl (fun _ => 0))), (u.2.1, .inl (cI, 256, .inl (fun _ => 0))), (u.2.2.1, .inl (cJ, 511, .inr (.inl (fun j => lI ((fun _ => (0 : Int)) j))))), (u.2.2.2.1, .inl (cJ, 511, .inr (.inl (fun j => lI ((fun _ => (0 : Int)) j))))), (u.2.2.2.2.1, .inl (cI, 256, .inl (fun _ => 0))), (u.2.2.2.2.2.1, .inl (cI, 256, .inl (fun _ => 0))), (u.2.2.2.2.2.2, .inl (cI, 256, .inl (fun _ => 0)))] t.heap ∧ va_D A [(mo, .inr (3, [.int 0, .int (nI (2 ^ 1)), .ref u.1, .ref u.2.1, .int (nI 0), .ref u.2.2.1, .ref u.2.2.2.1, .ref u.2.2.2.2.1, .ref u.2.2.2.2.2.1, .ref u.2.2.2.2.2.2])), (u.1, .inl (cI, 256, .inl (fun _ => 0))), (u.2.1, .inl (cI, 256, .inl (fun _ => 0))), (u.2.2.1, .inl (cJ, 511, .inr (.inl (fun j => lI ((fun _ => (0 : Int)) j))))), (u.2.2.2.1, .inl (cJ, 511, .inr (.inl (fun j => lI ((fun _ => (0 : Int)) j))))), (u.2.2.2.2.1, .inl (cI, 256, .inl (fun _ => 0))), (u.2.2.2.2.2.1, .inl (cI, 256, .inl (fun _ => 0))), (u.2.2.2.2.2.2, .inl (cI, 256, .inl (fun _ => 0)))]) A
set_option maxHeartbeats 4000000 in
set_option maxRecDepth 100000 in
theorem c_X4_init (l : Launch) (dC : Nat → ClassId) (dI : Nat → Nat → Nat) (cI cJ : ClassId) (mo : Nat) (sz : Nat) : Met l yX4_init wsX4_init ({ frames := 1, cells := 7, slots := 2302, locals := 12 }) (va_Pc [.ref mo] (fun U => U.heap.size = sz ∧ va_P (dC, dI) vwCl [(mo, .inr (3, [.int 0, .int 0, .null, .null, .int 0, .null, .null, .null, .null, .null]))] U.heap ∧ va_K (dC, dI) vwCl [(cI, .int), (cJ, .long)] U ∧ va_D (fun _ => True) [(mo, .inr (3, [.int 0, .int 0, .null, .null, .int 0, .null, .null, .null, .null, .null]))])) (q_X4_init dC dI cI cJ mo (va_A [(mo, .inr (3, [.int 0, .int 0, .null, .null, .int 0, .null, .null, .null, .null, .null]))] sz)) 7 2302 (va_A [(mo, .inr (3, [.int 0, .int 0, .null, .null, .int 0, .null, .null, .null, .null, .null]))] sz) := by
  refine Met.ofW (cc := cX4_init) (maxL := 1) (ret := none) (by decide) rfl ?_
  intro p e s m args below meth c s₁ B hml hv
  obtain ⟨rfl, hsz, hP, hK, hD0⟩ := hv
  have hx := B.exec
  have hb := B.bytes
  have hr := B.returns
  have hts := atoms_spec (ws := wsX4_init) B.pre
  have hown : s.vm.findClass RX4 = some m.cls := findClass_of_methodNamed B.named
  have hlocks := B.notSynchronized
  have hin : meth.name = "<init>" := (name_of_methodNamed B.named B.method).1
  subst hsz
  have hD := hD0.self (sz := s.heap.size)
  generalize hAe : va_A [(mo, .inr (3, [.int 0, .int 0, .null, .null, .int 0, .null, .null, .null, .null, .null]))] s.heap.size = A at hD ⊢
  have hA : ∀ q : Nat, s.heap.size ≤ q → A q := fun q h => by rw [← hAe]; exact Or.inr h
  have hS : va_S A s.heap s.heap [] := va_S.rf
  have hP : va_P (dC, dI) vwCl [(mo, .inr (3, [.int 0, .int 0, .null, .null, .int 0, .null, .null, .null, .null, .null]))] s.heap := hP
  have hl := lv_entry (([.ref mo] : List Value)) (n := 1) (Nat.le_of_ble_eq_true rfl)
  rw [lg_entry_eq]
  generalize (lg_sl (([.ref mo] : List Value)) ++ List.replicate (1 - (lg_sl (([.ref mo] : List Value))).length) Slot.unset).toArray = ls at hl ⊢
  have hl : lv_has ls 1 [(0, .ref mo)] := hl
  obtain ⟨H, hHe⟩ : ∃ H : Heap, H = s.heap := ⟨_, rfl⟩
  rw [← hHe] at hP
  have hS : va_S A s.heap H [] := by rw [hHe]; exact hS
  obtain ⟨locs, hlo⟩ : ∃ L : List Loc, L = [] := ⟨_, rfl⟩
  rw [← hlo] at hS ⊢
  rw [← hHe]
  refine lv_aload_n hx hb dX4_init_0 rfl (lv_at hl 0 rfl) ?_
  refine W.objInit hx hb hown (hts (.methodLink RX4 1 objectInit) (by decide +kernel)) (hts (.instanceMethod objectInit) (by decide +kernel)) (hts (.code objectInit ⟨#[0xb1]⟩ 1 none) (by decide +kernel)) rfl (by rw [hml]; exact hl.1) rfl dX4_init_1 (Nat.le_of_ble_eq_true rfl) (Nat.le_of_ble_eq_true rfl) ?_
  refine W.eq (g2 := F0 m 4 ls []) rfl ?_
  refine lv_aload_n hx hb dX4_init_4 rfl (lv_at hl 0 rfl) ?_
  refine lv_iconst (v := nI 2) hx hb dX4_init_5 (by decide) ?_
  refine va_put (D := (dC, dI)) (ci := 3) (v := .int (nI 2)) (ty := .int) (C := RX4) (T := TX4) (N := 10) hx hb hts (by decide +kernel) tyX4 tyX4_ok nmX4 hown hK hP hD hS 0 rfl rfl 1 (by decide) (hts (.fieldLink RX4 7 "ThreePrimesModel" "n" "I") (by decide +kernel)) (fun _ h9 => h9) rfl (by decide +kernel) rfl rfl (Nat.le_of_ble_eq_true rfl) dX4_init_6 (fun H locs hP hD hS => ?_)
  have hP : va_P (dC, dI) vwCl [(mo, .inr (3, [.int 0, .int (nI 2), .null, .null, .int 0, .null, .null, .null, .null, .null]))] H := hP
  have hD : va_D A [(mo, .inr (3, [.int 0, .int (nI 2), .null, .null, .int 0, .null, .null, .null, .null, .null]))] := hD
  refine lv_aload_n hx hb dX4_init_9 rfl (lv_at hl 0 rfl) ?_
  refine lv_sipush (v := nI 256) hx hb dX4_init_10 (by decide) ?_
  refine va_newa (atype := .int) (ty := .int) (N' := 256) (a0 := (256, .inl (fun _ => 0))) hx hb (hts (.arrayClass .int) (by decide +kernel)) rfl hK hP hD hS hA (fun cA9 => new_I cA9 256) (by decide) (by decide +kernel) (Nat.le_of_ble_eq_true rfl) (Nat.le_of_ble_eq_true rfl) (Nat.le_of_ble_eq_true rfl) dX4_init_13 (fun qa_1 cA9 H hK9 hP hD hS => ?_)
  have hcA : cA9 = cI := Option.some.inj ((show s.vm.findClass ("[" ++ FieldType.toString .int) = some cA9 from (hK9.2 2 _ rfl).2).symm.trans (show s.vm.findClass ("[" ++ FieldType.toString .int) = some cI from (hK9.2 0 _ rfl).2))
  rw [hcA] at hP hD
  clear hK9 hcA
  have hP : va_P (dC, dI) vwCl [(mo, .inr (3, [.int 0, .int (nI 2), .null, .null, .int 0, .null, .null, .null, .null, .null])), (qa_1, .inl (cI, 256, .inl (fun _ => 0)))] H := hP
  have hD : va_D A [(mo, .inr (3, [.int 0, .int (nI 2), .null, .null, .int 0, .null, .null, .null, .null, .null])), (qa_1, .inl (cI, 256, .inl (fun _ => 0)))] := hD
  refine W.widen (k := 1) (n := 256) (by omega) (by omega) ?_
  refine va_putF (D := (dC, dI)) (ci := 3) (v := .ref qa_1) (ty := .array .int) (C := RX4) (T := TX4) (N := 10) hx hb hts (by decide +kernel) tyX4 tyX4_ok nmX4 hown hK hP hD hS 0 rfl rfl 2 (by decide) (hts (.fieldLink RX4 13 "ThreePrimesModel" "a" "[I") (by decide +kernel)) (fun _ h9 => h9) rfl hin rfl (by decide +kernel) rfl rfl (Nat.le_of_ble_eq_true rfl) dX4_init_15 (fun H locs hP hD hS => ?_)
  have hP : va_P (dC, dI) vwCl [(mo, .inr (3, [.int 0, .int (nI 2), .ref qa_1, .null, .int 0, .null, .null, .null, .null, .null])), (qa_1, .inl (cI, 256, .inl (fun _ => 0)))] H := hP
  have hD : va_D A [(mo, .inr (3, [.int 0, .int (nI 2), .ref qa_1, .null, .int 0, .null, .null, .null, .null, .null])), (qa_1, .inl (cI, 256, .inl (fun _ => 0)))] := hD
  refine lv_aload_n hx hb dX4_init_18 rfl (lv_at hl 0 rfl) ?_
  refine lv_sipush (v := nI 256) hx hb dX4_init_19 (by decide) ?_
  refine va_newa (atype := .int) (ty := .int) (N' := 256) (a0 := (256, .inl (fun _ => 0))) hx hb (hts (.arrayClass .int) (by decide +kernel)) rfl hK hP hD hS hA (fun cA9 => new_I cA9 256) (by decide) (by decide +kernel) (Nat.le_of_ble_eq_true rfl) (Nat.le_of_ble_eq_true rfl) (Nat.le_of_ble_eq_true rfl) dX4_init_22 (fun qa_2 cA9 H hK9 hP hD hS => ?_)
  have hcA : cA9 = cI := Option.some.inj ((show s.vm.findClass ("[" ++ FieldType.toString .int) = some cA9 from (hK9.2 2 _ rfl).2).symm.trans (show s.vm.findClass ("[" ++ FieldType.toString .int) = some cI from (hK9.2 0 _ rfl).2))
  rw [hcA] at hP hD
  clear hK9 hcA
  have hP : va_P (dC, dI) vwCl [(mo, .inr (3, [.int 0, .int (nI 2), .ref qa_1, .null, .int 0, .null, .null, .null, .null, .null])), (qa_1, .inl (cI, 256, .inl (fun _ => 0))), (qa_2, .inl (cI, 256, .inl (fun _ => 0)))] H := hP
  have hD : va_D A [(mo, .inr (3, [.int 0, .int (nI 2), .ref qa_1, .null, .int 0, .null, .null, .null, .null, .null])), (qa_1, .inl (cI, 256, .inl (fun _ => 0))), (qa_2, .inl (cI, 256, .inl (fun _ => 0)))] := hD
  refine W.widen (k := 2) (n := 512) (by omega) (by omega) ?_
  refine va_putF (D := (dC, dI)) (ci := 3) (v := .ref qa_2) (ty := .array .int) (C := RX4) (T := TX4) (N := 10) hx hb hts (by decide +kernel) tyX4 tyX4_ok nmX4 hown hK hP hD hS 0 rfl rfl 3 (by decide) (hts (.fieldLink RX4 17 "ThreePrimesModel" "b" "[I") (by decide +kernel)) (fun _ h9 => h9) rfl hin rfl (by decide +kernel) rfl rfl (Nat.le_of_ble_eq_true rfl) dX4_init_24 (fun H locs hP hD hS => ?_)
  have hP : va_P (dC, dI) vwCl [(mo, .inr (3, [.int 0, .int (nI 2), .ref qa_1, .ref qa_2, .int 0, .null, .null, .null, .null, .null])), (qa_1, .inl (cI, 256, .inl (fun _ => 0))), (qa_2, .inl (cI, 256, .inl (fun _ => 0)))] H := hP
  have hD : va_D A [(mo, .inr (3, [.int 0, .int (nI 2), .ref qa_1, .ref qa_2, .int 0, .null, .null, .null, .null, .null])), (qa_1, .inl (cI, 256, .inl (fun _ => 0))), (qa_2, .inl (cI, 256, .inl (fun _ => 0)))] := hD
  refine lv_aload_n hx hb dX4_init_27 rfl (lv_at hl 0 rfl) ?_
  refine lv_sipush (v := nI 511) hx hb dX4_init_28 (by decide) ?_
  refine va_newa (atype := .long) (ty := .long) (N' := 511) (a0 := (511, .inr (.inl (fun j => lI ((fun _ => (0 : Int)) j))))) hx hb (hts (.arrayClass .long) (by decide +kernel)) rfl hK hP hD hS hA (fun cA9 => new_J cA9 511) (by decide) (by decide +kernel) (Nat.le_of_ble_eq_true rfl) (Nat.le_of_ble_eq_true rfl) (Nat.le_of_ble_eq_true rfl) dX4_init_31 (fun qa_3 cA9 H hK9 hP hD hS => ?_)
  have hcA : cA9 = cJ := Option.some.inj ((show s.vm.findClass ("[" ++ FieldType.toString .long) = some cA9 from (hK9.2 2 _ rfl).2).symm.trans (show s.vm.findClass ("[" ++ FieldType.toString .long) = some cJ from (hK9.2 1 _ rfl).2))
  rw [hcA] at hP hD
  clear hK9 hcA
  have hP : va_P (dC, dI) vwCl [(mo, .inr (3, [.int 0, .int (nI 2), .ref qa_1, .ref qa_2, .int 0, .null, .null, .null, .null, .null])), (qa_1, .inl (cI, 256, .inl (fun _ => 0))), (qa_2, .inl (cI, 256, .inl (fun _ => 0))), (qa_3, .inl (cJ, 511, .inr (.inl (fun j => lI ((fun _ => (0 : Int)) j)))))] H := hP
  have hD : va_D A [(mo, .inr (3, [.int 0, .int (nI 2), .ref qa_1, .ref qa_2, .int 0, .null, .null, .null, .null, .null])), (qa_1, .inl (cI, 256, .inl (fun _ => 0))), (qa_2, .inl (cI, 256, .inl (fun _ => 0))), (qa_3, .inl (cJ, 511, .inr (.inl (fun j => lI ((fun _ => (0 : Int)) j)))))] := hD
  refine W.widen (k := 3) (n := 1023) (by omega) (by omega) ?_
  refine va_putF (D := (dC, dI)) (ci := 3) (v := .ref qa_3) (ty := .array .long) (C := RX4) (T := TX4) (N := 10) hx hb hts (by decide +kernel) tyX4 tyX4_ok nmX4 hown hK hP hD hS 0 rfl rfl 5 (by decide) (hts (.fieldLink RX4 20 "ThreePrimesModel" "low" "[J") (by decide +kernel)) (fun _ h9 => h9) rfl hin rfl (by decide +kernel) rfl rfl (Nat.le_of_ble_eq_true rfl) dX4_init_33 (fun H locs hP hD hS => ?_)
  have hP : va_P (dC, dI) vwCl [(mo, .inr (3, [.int 0, .int (nI 2), .ref qa_1, .ref qa_2, .int 0, .ref qa_3, .null, .null, .null, .null])), (qa_1, .inl (cI, 256, .inl (fun _ => 0))), (qa_2, .inl (cI, 256, .inl (fun _ => 0))), (qa_3, .inl (cJ, 511, .inr (.inl (fun j => lI ((fun _ => (0 : Int)) j)))))] H := hP
  have hD : va_D A [(mo, .inr (3, [.int 0, .int (nI 2), .ref qa_1, .ref qa_2, .int 0, .ref qa_3, .null, .null, .null, .null])), (qa_1, .inl (cI, 256, .inl (fun _ => 0))), (qa_2, .inl (cI, 256, .inl (fun _ => 0))), (qa_3, .inl (cJ, 511, .inr (.inl (fun j => lI ((fun _ => (0 : Int)) j)))))] := hD
  refine lv_aload_n hx hb dX4_init_36 rfl (lv_at hl 0 rfl) ?_
  refine lv_sipush (v := nI 511) hx hb dX4_init_37 (by decide) ?_
  refine va_newa (atype := .long) (ty := .long) (N' := 511) (a0 := (511, .inr (.inl (fun j => lI ((fun _ => (0 : Int)) j))))) hx hb (hts (.arrayClass .long) (by decide +kernel)) rfl hK hP hD hS hA (fun cA9 => new_J cA9 511) (by decide) (by decide +kernel) (Nat.le_of_ble_eq_true rfl) (Nat.le_of_ble_eq_true rfl) (Nat.le_of_ble_eq_true rfl) dX4_init_40 (fun qa_4 cA9 H hK9 hP hD hS => ?_)
  have hcA : cA9 = cJ := Option.some.inj ((show s.vm.findClass ("[" ++ FieldType.toString .long) = some cA9 from (hK9.2 2 _ rfl).2).symm.trans (show s.vm.findClass ("[" ++ FieldType.toString .long) = some cJ from (hK9.2 1 _ rfl).2))
  rw [hcA] at hP hD
  clear hK9 hcA
  have hP : va_P (dC, dI) vwCl [(mo, .inr (3, [.int 0, .int (nI 2), .ref qa_1, .ref qa_2, .int 0, .ref qa_3, .null, .null, .null, .null])), (qa_1, .inl (cI, 256, .inl (fun _ => 0))), (qa_2, .inl (cI, 256, .inl (fun _ => 0))), (qa_3, .inl (cJ, 511, .inr (.inl (fun j => lI ((fun _ => (0 : Int)) j))))), (qa_4, .inl (cJ, 511, .inr (.inl (fun j => lI ((fun _ => (0 : Int)) j)))))] H := hP
  have hD : va_D A [(mo, .inr (3, [.int 0, .int (nI 2), .ref qa_1, .ref qa_2, .int 0, .ref qa_3, .null, .null, .null, .null])), (qa_1, .inl (cI, 256, .inl (fun _ => 0))), (qa_2, .inl (cI, 256, .inl (fun _ => 0))), (qa_3, .inl (cJ, 511, .inr (.inl (fun j => lI ((fun _ => (0 : Int)) j))))), (qa_4, .inl (cJ, 511, .inr (.inl (fun j => lI ((fun _ => (0 : Int)) j)))))] := hD
  refine W.widen (k := 4) (n := 1534) (by omega) (by omega) ?_
  refine va_putF (D := (dC, dI)) (ci := 3) (v := .ref qa_4) (ty := .array .long) (C := RX4) (T := TX4) (N := 10) hx hb hts (by decide +kernel) tyX4 tyX4_ok nmX4 hown hK hP hD hS 0 rfl rfl 6 (by decide) (hts (.fieldLink RX4 24 "ThreePrimesModel" "high" "[J") (by decide +kernel)) (fun _ h9 => h9) rfl hin rfl (by decide +kernel) rfl rfl (Nat.le_of_ble_eq_true rfl) dX4_init_42 (fun H locs hP hD hS => ?_)
  have hP : va_P (dC, dI) vwCl [(mo, .inr (3, [.int 0, .int (nI 2), .ref qa_1, .ref qa_2, .int 0, .ref qa_3, .ref qa_4, .null, .null, .null])), (qa_1, .inl (cI, 256, .inl (fun _ => 0))), (qa_2, .inl (cI, 256, .inl (fun _ => 0))), (qa_3, .inl (cJ, 511, .inr (.inl (fun j => lI ((fun _ => (0 : Int)) j))))), (qa_4, .inl (cJ, 511, .inr (.inl (fun j => lI ((fun _ => (0 : Int)) j)))))] H := hP
  have hD : va_D A [(mo, .inr (3, [.int 0, .int (nI 2), .ref qa_1, .ref qa_2, .int 0, .ref qa_3, .ref qa_4, .null, .null, .null])), (qa_1, .inl (cI, 256, .inl (fun _ => 0))), (qa_2, .inl (cI, 256, .inl (fun _ => 0))), (qa_3, .inl (cJ, 511, .inr (.inl (fun j => lI ((fun _ => (0 : Int)) j))))), (qa_4, .inl (cJ, 511, .inr (.inl (fun j => lI ((fun _ => (0 : Int)) j)))))] := hD
  refine lv_aload_n hx hb dX4_init_45 rfl (lv_at hl 0 rfl) ?_
  refine lv_sipush (v := nI 256) hx hb dX4_init_46 (by decide) ?_
  refine va_newa (atype := .int) (ty := .int) (N' := 256) (a0 := (256, .inl (fun _ => 0))) hx hb (hts (.arrayClass .int) (by decide +kernel)) rfl hK hP hD hS hA (fun cA9 => new_I cA9 256) (by decide) (by decide +kernel) (Nat.le_of_ble_eq_true rfl) (Nat.le_of_ble_eq_true rfl) (Nat.le_of_ble_eq_true rfl) dX4_init_49 (fun qa_5 cA9 H hK9 hP hD hS => ?_)
  have hcA : cA9 = cI := Option.some.inj ((show s.vm.findClass ("[" ++ FieldType.toString .int) = some cA9 from (hK9.2 2 _ rfl).2).symm.trans (show s.vm.findClass ("[" ++ FieldType.toString .int) = some cI from (hK9.2 0 _ rfl).2))
  rw [hcA] at hP hD
  clear hK9 hcA
  have hP : va_P (dC, dI) vwCl [(mo, .inr (3, [.int 0, .int (nI 2), .ref qa_1, .ref qa_2, .int 0, .ref qa_3, .ref qa_4, .null, .null, .null])), (qa_1, .inl (cI, 256, .inl (fun _ => 0))), (qa_2, .inl (cI, 256, .inl (fun _ => 0))), (qa_3, .inl (cJ, 511, .inr (.inl (fun j => lI ((fun _ => (0 : Int)) j))))), (qa_4, .inl (cJ, 511, .inr (.inl (fun j => lI ((fun _ => (0 : Int)) j))))), (qa_5, .inl (cI, 256, .inl (fun _ => 0)))] H := hP
  have hD : va_D A [(mo, .inr (3, [.int 0, .int (nI 2), .ref qa_1, .ref qa_2, .int 0, .ref qa_3, .ref qa_4, .null, .null, .null])), (qa_1, .inl (cI, 256, .inl (fun _ => 0))), (qa_2, .inl (cI, 256, .inl (fun _ => 0))), (qa_3, .inl (cJ, 511, .inr (.inl (fun j => lI ((fun _ => (0 : Int)) j))))), (qa_4, .inl (cJ, 511, .inr (.inl (fun j => lI ((fun _ => (0 : Int)) j))))), (qa_5, .inl (cI, 256, .inl (fun _ => 0)))] := hD
  refine W.widen (k := 5) (n := 1790) (by omega) (by omega) ?_
  refine va_putF (D := (dC, dI)) (ci := 3) (v := .ref qa_5) (ty := .array .int) (C := RX4) (T := TX4) (N := 10) hx hb hts (by decide +kernel) tyX4 tyX4_ok nmX4 hown hK hP hD hS 0 rfl rfl 7 (by decide) (hts (.fieldLink RX4 27 "ThreePrimesModel" "kept" "[I") (by decide +kernel)) (fun _ h9 => h9) rfl hin rfl (by decide +kernel) rfl rfl (Nat.le_of_ble_eq_true rfl) dX4_init_51 (fun H locs hP hD hS => ?_)
  have hP : va_P (dC, dI) vwCl [(mo, .inr (3, [.int 0, .int (nI 2), .ref qa_1, .ref qa_2, .int 0, .ref qa_3, .ref qa_4, .ref qa_5, .null, .null])), (qa_1, .inl (cI, 256, .inl (fun _ => 0))), (qa_2, .inl (cI, 256, .inl (fun _ => 0))), (qa_3, .inl (cJ, 511, .inr (.inl (fun j => lI ((fun _ => (0 : Int)) j))))), (qa_4, .inl (cJ, 511, .inr (.inl (fun j => lI ((fun _ => (0 : Int)) j))))), (qa_5, .inl (cI, 256, .inl (fun _ => 0)))] H := hP
  have hD : va_D A [(mo, .inr (3, [.int 0, .int (nI 2), .ref qa_1, .ref qa_2, .int 0, .ref qa_3, .ref qa_4, .ref qa_5, .null, .null])), (qa_1, .inl (cI, 256, .inl (fun _ => 0))), (qa_2, .inl (cI, 256, .inl (fun _ => 0))), (qa_3, .inl (cJ, 511, .inr (.inl (fun j => lI ((fun _ => (0 : Int)) j))))), (qa_4, .inl (cJ, 511, .inr (.inl (fun j => lI ((fun _ => (0 : Int)) j))))), (qa_5, .inl (cI, 256, .inl (fun _ => 0)))] := hD
  refine lv_aload_n hx hb dX4_init_54 rfl (lv_at hl 0 rfl) ?_
  refine lv_sipush (v := nI 256) hx hb dX4_init_55 (by decide) ?_
  refine va_newa (atype := .int) (ty := .int) (N' := 256) (a0 := (256, .inl (fun _ => 0))) hx hb (hts (.arrayClass .int) (by decide +kernel)) rfl hK hP hD hS hA (fun cA9 => new_I cA9 256) (by decide) (by decide +kernel) (Nat.le_of_ble_eq_true rfl) (Nat.le_of_ble_eq_true rfl) (Nat.le_of_ble_eq_true rfl) dX4_init_58 (fun qa_6 cA9 H hK9 hP hD hS => ?_)
  have hcA : cA9 = cI := Option.some.inj ((show s.vm.findClass ("[" ++ FieldType.toString .int) = some cA9 from (hK9.2 2 _ rfl).2).symm.trans (show s.vm.findClass ("[" ++ FieldType.toString .int) = some cI from (hK9.2 0 _ rfl).2))
  rw [hcA] at hP hD
  clear hK9 hcA
  have hP : va_P (dC, dI) vwCl [(mo, .inr (3, [.int 0, .int (nI 2), .ref qa_1, .ref qa_2, .int 0, .ref qa_3, .ref qa_4, .ref qa_5, .null, .null])), (qa_1, .inl (cI, 256, .inl (fun _ => 0))), (qa_2, .inl (cI, 256, .inl (fun _ => 0))), (qa_3, .inl (cJ, 511, .inr (.inl (fun j => lI ((fun _ => (0 : Int)) j))))), (qa_4, .inl (cJ, 511, .inr (.inl (fun j => lI ((fun _ => (0 : Int)) j))))), (qa_5, .inl (cI, 256, .inl (fun _ => 0))), (qa_6, .inl (cI, 256, .inl (fun _ => 0)))] H := hP
  have hD : va_D A [(mo, .inr (3, [.int 0, .int (nI 2), .ref qa_1, .ref qa_2, .int 0, .ref qa_3, .ref qa_4, .ref qa_5, .null, .null])), (qa_1, .inl (cI, 256, .inl (fun _ => 0))), (qa_2, .inl (cI, 256, .inl (fun _ => 0))), (qa_3, .inl (cJ, 511, .inr (.inl (fun j => lI ((fun _ => (0 : Int)) j))))), (qa_4, .inl (cJ, 511, .inr (.inl (fun j => lI ((fun _ => (0 : Int)) j))))), (qa_5, .inl (cI, 256, .inl (fun _ => 0))), (qa_6, .inl (cI, 256, .inl (fun _ => 0)))] := hD
  refine W.widen (k := 6) (n := 2046) (by omega) (by omega) ?_
  refine va_putF (D := (dC, dI)) (ci := 3) (v := .ref qa_6) (ty := .array .int) (C := RX4) (T := TX4) (N := 10) hx hb hts (by decide +kernel) tyX4 tyX4_ok nmX4 hown hK hP hD hS 0 rfl rfl 8 (by decide) (hts (.fieldLink RX4 30 "ThreePrimesModel" "other" "[I") (by decide +kernel)) (fun _ h9 => h9) rfl hin rfl (by decide +kernel) rfl rfl (Nat.le_of_ble_eq_true rfl) dX4_init_60 (fun H locs hP hD hS => ?_)
  have hP : va_P (dC, dI) vwCl [(mo, .inr (3, [.int 0, .int (nI 2), .ref qa_1, .ref qa_2, .int 0, .ref qa_3, .ref qa_4, .ref qa_5, .ref qa_6, .null])), (qa_1, .inl (cI, 256, .inl (fun _ => 0))), (qa_2, .inl (cI, 256, .inl (fun _ => 0))), (qa_3, .inl (cJ, 511, .inr (.inl (fun j => lI ((fun _ => (0 : Int)) j))))), (qa_4, .inl (cJ, 511, .inr (.inl (fun j => lI ((fun _ => (0 : Int)) j))))), (qa_5, .inl (cI, 256, .inl (fun _ => 0))), (qa_6, .inl (cI, 256, .inl (fun _ => 0)))] H := hP
  have hD : va_D A [(mo, .inr (3, [.int 0, .int (nI 2), .ref qa_1, .ref qa_2, .int 0, .ref qa_3, .ref qa_4, .ref qa_5, .ref qa_6, .null])), (qa_1, .inl (cI, 256, .inl (fun _ => 0))), (qa_2, .inl (cI, 256, .inl (fun _ => 0))), (qa_3, .inl (cJ, 511, .inr (.inl (fun j => lI ((fun _ => (0 : Int)) j))))), (qa_4, .inl (cJ, 511, .inr (.inl (fun j => lI ((fun _ => (0 : Int)) j))))), (qa_5, .inl (cI, 256, .inl (fun _ => 0))), (qa_6, .inl (cI, 256, .inl (fun _ => 0)))] := hD
  refine lv_aload_n hx hb dX4_init_63 rfl (lv_at hl 0 rfl) ?_
  refine lv_sipush (v := nI 256) hx hb dX4_init_64 (by decide) ?_
  refine va_newa (atype := .int) (ty := .int) (N' := 256) (a0 := (256, .inl (fun _ => 0))) hx hb (hts (.arrayClass .int) (by decide +kernel)) rfl hK hP hD hS hA (fun cA9 => new_I cA9 256) (by decide) (by decide +kernel) (Nat.le_of_ble_eq_true rfl) (Nat.le_of_ble_eq_true rfl) (Nat.le_of_ble_eq_true rfl) dX4_init_67 (fun qa_7 cA9 H hK9 hP hD hS => ?_)
  have hcA : cA9 = cI := Option.some.inj ((show s.vm.findClass ("[" ++ FieldType.toString .int) = some cA9 from (hK9.2 2 _ rfl).2).symm.trans (show s.vm.findClass ("[" ++ FieldType.toString .int) = some cI from (hK9.2 0 _ rfl).2))
  rw [hcA] at hP hD
  clear hK9 hcA
  have hP : va_P (dC, dI) vwCl [(mo, .inr (3, [.int 0, .int (nI 2), .ref qa_1, .ref qa_2, .int 0, .ref qa_3, .ref qa_4, .ref qa_5, .ref qa_6, .null])), (qa_1, .inl (cI, 256, .inl (fun _ => 0))), (qa_2, .inl (cI, 256, .inl (fun _ => 0))), (qa_3, .inl (cJ, 511, .inr (.inl (fun j => lI ((fun _ => (0 : Int)) j))))), (qa_4, .inl (cJ, 511, .inr (.inl (fun j => lI ((fun _ => (0 : Int)) j))))), (qa_5, .inl (cI, 256, .inl (fun _ => 0))), (qa_6, .inl (cI, 256, .inl (fun _ => 0))), (qa_7, .inl (cI, 256, .inl (fun _ => 0)))] H := hP
  have hD : va_D A [(mo, .inr (3, [.int 0, .int (nI 2), .ref qa_1, .ref qa_2, .int 0, .ref qa_3, .ref qa_4, .ref qa_5, .ref qa_6, .null])), (qa_1, .inl (cI, 256, .inl (fun _ => 0))), (qa_2, .inl (cI, 256, .inl (fun _ => 0))), (qa_3, .inl (cJ, 511, .inr (.inl (fun j => lI ((fun _ => (0 : Int)) j))))), (qa_4, .inl (cJ, 511, .inr (.inl (fun j => lI ((fun _ => (0 : Int)) j))))), (qa_5, .inl (cI, 256, .inl (fun _ => 0))), (qa_6, .inl (cI, 256, .inl (fun _ => 0))), (qa_7, .inl (cI, 256, .inl (fun _ => 0)))] := hD
  refine W.widen (k := 7) (n := 2302) (by omega) (by omega) ?_
  refine va_putF (D := (dC, dI)) (ci := 3) (v := .ref qa_7) (ty := .array .int) (C := RX4) (T := TX4) (N := 10) hx hb hts (by decide +kernel) tyX4 tyX4_ok nmX4 hown hK hP hD hS 0 rfl rfl 9 (by decide) (hts (.fieldLink RX4 33 "ThreePrimesModel" "sums" "[I") (by decide +kernel)) (fun _ h9 => h9) rfl hin rfl (by decide +kernel) rfl rfl (Nat.le_of_ble_eq_true rfl) dX4_init_69 (fun H locs hP hD hS => ?_)
  have hP : va_P (dC, dI) vwCl [(mo, .inr (3, [.int 0, .int (nI 2), .ref qa_1, .ref qa_2, .int 0, .ref qa_3, .ref qa_4, .ref qa_5, .ref qa_6, .ref qa_7])), (qa_1, .inl (cI, 256, .inl (fun _ => 0))), (qa_2, .inl (cI, 256, .inl (fun _ => 0))), (qa_3, .inl (cJ, 511, .inr (.inl (fun j => lI ((fun _ => (0 : Int)) j))))), (qa_4, .inl (cJ, 511, .inr (.inl (fun j => lI ((fun _ => (0 : Int)) j))))), (qa_5, .inl (cI, 256, .inl (fun _ => 0))), (qa_6, .inl (cI, 256, .inl (fun _ => 0))), (qa_7, .inl (cI, 256, .inl (fun _ => 0)))] H := hP
  have hD : va_D A [(mo, .inr (3, [.int 0, .int (nI 2), .ref qa_1, .ref qa_2, .int 0, .ref qa_3, .ref qa_4, .ref qa_5, .ref qa_6, .ref qa_7])), (qa_1, .inl (cI, 256, .inl (fun _ => 0))), (qa_2, .inl (cI, 256, .inl (fun _ => 0))), (qa_3, .inl (cJ, 511, .inr (.inl (fun j => lI ((fun _ => (0 : Int)) j))))), (qa_4, .inl (cJ, 511, .inr (.inl (fun j => lI ((fun _ => (0 : Int)) j))))), (qa_5, .inl (cI, 256, .inl (fun _ => 0))), (qa_6, .inl (cI, 256, .inl (fun _ => 0))), (qa_7, .inl (cI, 256, .inl (fun _ => 0)))] := hD
  have hP9 : va_P (dC, dI) vwCl [(mo, .inr (3, [.int 0, .int (nI (2 ^ 1)), .ref qa_1, .ref qa_2, .int (nI 0), .ref qa_3, .ref qa_4, .ref qa_5, .ref qa_6, .ref qa_7])), (qa_1, .inl (cI, 256, .inl (fun _ => 0))), (qa_2, .inl (cI, 256, .inl (fun _ => 0))), (qa_3, .inl (cJ, 511, .inr (.inl (fun j => lI ((fun _ => (0 : Int)) j))))), (qa_4, .inl (cJ, 511, .inr (.inl (fun j => lI ((fun _ => (0 : Int)) j))))), (qa_5, .inl (cI, 256, .inl (fun _ => 0))), (qa_6, .inl (cI, 256, .inl (fun _ => 0))), (qa_7, .inl (cI, 256, .inl (fun _ => 0)))] H := hP.sub [0, 1, 2, 3, 4, 5, 6, 7] rfl
  have hD9 : va_D A [(mo, .inr (3, [.int 0, .int (nI (2 ^ 1)), .ref qa_1, .ref qa_2, .int (nI 0), .ref qa_3, .ref qa_4, .ref qa_5, .ref qa_6, .ref qa_7])), (qa_1, .inl (cI, 256, .inl (fun _ => 0))), (qa_2, .inl (cI, 256, .inl (fun _ => 0))), (qa_3, .inl (cJ, 511, .inr (.inl (fun j => lI ((fun _ => (0 : Int)) j))))), (qa_4, .inl (cJ, 511, .inr (.inl (fun j => lI ((fun _ => (0 : Int)) j))))), (qa_5, .inl (cI, 256, .inl (fun _ => 0))), (qa_6, .inl (cI, 256, .inl (fun _ => 0))), (qa_7, .inl (cI, 256, .inl (fun _ => 0)))] := hD.sub [0, 1, 2, 3, 4, 5, 6, 7] (by decide) rfl
  exact W.vret hx hb hr (fun tq9 ht hW => ⟨⟨(qa_1, qa_2, qa_3, qa_4, qa_5, qa_6, qa_7), rfl, trivial, by rw [ht]; exact hP9, hD9⟩, hS.F ht⟩) hS.2.2 dX4_init_72
