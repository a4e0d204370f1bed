/-! what stands around every call: the class's table of primes, the words and cells of a throw -/
def prN (q : Nat) : Nat := match q with
  | 0 => 998244353
  | 1 => 167772161
  | _ => 469762049
def prV (j : Nat) : Value := .int (nI (prN j))
def ngL : List Cond := (vx_atS RX3 49 "java/lang/IllegalArgumentException" ["java/lang/RuntimeException", "java/lang/Exception"]).filter (fun w => !goodWord w) ++ ((vx_atS RX3 126 "java/lang/IndexOutOfBoundsException" ["java/lang/RuntimeException", "java/lang/Exception"]).filter (fun w => !goodWord w) ++ (vx_atS RX3 115 "java/lang/IllegalStateException" ["java/lang/RuntimeException", "java/lang/Exception"]).filter (fun w => !goodWord w))
theorem ngL_ok : ngL.all (fun w => w.onTables && w.keepsFace) = true := by decide +kernel
theorem face_pass {w : Cond} (h1 : w.onTables = true) (h2 : w.keepsFace = true) {A A' : Array Value} {s U : State} (hW : s.WarmedH U.vm) (h : w.before A s = true) : w.before A' U = true := by
  have h3 := Cond.before_shiftedFace (State.Shifted.of_warmed hW) w h2 h
  rw [Cond.onTables_vm (A' := A') (U' := U) U.vm w h1, State.setVm_self] at h3
  exact h3
def va_AOA (ty : FieldType) (U : State) : Prop := (Cond.arrayOver (.array ty)).before #[] U = true
theorem va_AOA.of {ty : FieldType} {A : Array Value} {U : State} (h : (Cond.arrayOver (.array ty)).before A U = true) : va_AOA ty U := h
theorem va_AOA.use {ty : FieldType} {A : Array Value} {U : State} (h : va_AOA ty U) : (Cond.arrayOver (.array ty)).before A U = true := h
theorem va_AOA.moved {ty : FieldType} {u U : State} (hvm : u.vm.Alike U.vm) (h : va_AOA ty u) : va_AOA ty U := by
  obtain ⟨comp, c, k, h1, h2, h3, h4, h5⟩ := arrayOverA_spec h
  obtain ⟨k', hk', he⟩ := hvm.2.2 _ _ h3
  have hi : (U.vm.classes.findIdx? fun (x : Class) => match x.kind with | .array component _ => component == comp | _ => false) = some c := by
    have e1 := va_idx_bare U.vm comp
    have e2 := va_idx_bare u.vm comp
    have hbare : U.vm.bare = u.vm.bare := by first | exact hvm.bare_eq | exact hvm.bare_eq.symm
    rw [hbare] at e1
    exact e1.symm.trans (e2.trans h2)
  have hkind : k'.kind = .array comp (.array ty) := by rw [he]; exact h4
  have f1 : U.vm.findClass (FieldType.array ty).toString = some comp := by rw [hvm.findClass]; exact h1
  have f2 : U.vm.findClass ("[" ++ (FieldType.array ty).toString) = some c := by rw [hvm.findClass]; exact h5
  unfold va_AOA Cond.before Cond.holds
  simp only [Cond.value]
  rw [f1, Option.bind_some]
  refine (congrArg (fun o : Option Nat => (o.bind (fun c => (U.vm.classes[c]?).map fun (k : Class) => match k.kind with | .array _ ty' => decide (ty' = FieldType.array ty) && decide (U.vm.findClass ("[" ++ (FieldType.array ty).toString) = some c) | _ => false) == some true)) hi).trans ?_
  simp [hk', hkind, f2]
def ambW (U : State) : Prop := va_Nw (.fieldLinkNest RX0 21 RX3 "PRIMES" "[I" RX3) U ∧ va_Nw (.fieldLinkNest RX2 9 RX3 "PRIMES" "[I" RX3) U ∧ va_Nc "java/lang/IndexOutOfBoundsException" "java/lang/IllegalArgumentException" U ∧ va_AOA .int U
theorem ambW.warm {s U : State} (hW : s.WarmedH U.vm) (h : ambW s) : ambW U := ⟨h.1.warmF hW, h.2.1.warmF hW, h.2.2.1.moved hW.alike, h.2.2.2.moved hW.alike⟩
theorem ambW.same {u U : State} (hv : U.vm = u.vm) (h : ambW u) : ambW U := ⟨va_Nw.same rfl hv.symm h.1, va_Nw.same rfl hv.symm h.2.1, h.2.2.1.moved (by rw [hv]; exact Vm.Alike.refl _), h.2.2.2.moved (by rw [hv]; exact Vm.Alike.refl _)⟩
def amb (tP : Nat) (sa : Nat → Nat) (A : Nat → Prop) (U : State) (H : Heap) : Prop :=
  (va_Z RX3 "PRIMES" "[I" (.ref tP) A U H ∧ va_T .int tP 3 prV A U H ∧ vx_Zq Bundle.tN "UNASSIGNED_STACK" Bundle.steD A U H ∧ vx_Zq Bundle.tN "SUPPRESSED_SENTINEL" Bundle.listD A U H) ∧
  (vk_R RX3 47 "k is not 1 to 8" (sa 0) U ∧ vk_R RX3 59 "kind is not 0 to 2" (sa 1) U ∧ vk_R RX3 65 "e is not 1 to 1000" (sa 2) U ∧ vk_R RX3 113 "nothing was folded" (sa 3) U ∧ vk_R RX3 124 "there is no such place" (sa 4) U ∧ vk_R RX3 127 "there is no such result" (sa 5) U ∧ vk_R RX3 129 "prime is not 0 to 2" (sa 6) U) ∧
  (∀ w ∈ ngL, w.before #[] U = true) ∧ ambW U
theorem amb_pass {tP : Nat} {sa : Nat → Nat} {A A' : Nat → Prop} {s U : State} {H : Heap} {locs : List Loc} (h : amb tP sa A s s.heap) (hS : va_S A s.heap H locs) (hF : ∀ q, A' q → A q) (hW : s.WarmedH U.vm) (hU : U.heap = H) : amb tP sa A' U U.heap := by
  obtain ⟨⟨a1, a2, a3, a4⟩, ⟨b1, b2, b3, b4, b5, b6, b7⟩, c1, d1⟩ := h
  rw [hU]
  refine ⟨⟨((a1.kept hS.2.1).narrow hF).moved hW.alike, ((a2.kept hS.2.1).narrow hF).moved hW.alike, ((a3.kept hS.2.1).narrow hF).moved hW.alike, ((a4.kept hS.2.1).narrow hF).moved hW.alike⟩, ⟨b1.warm hW, b2.warm hW, b3.warm hW, b4.warm hW, b5.warm hW, b6.warm hW, b7.warm hW⟩, fun w hw => ?_, d1.warm hW⟩
  have h9 := List.all_eq_true.mp ngL_ok w hw
  simp only [Bool.and_eq_true] at h9
  exact face_pass h9.1 h9.2 hW (c1 w hw)
theorem amb_same {tP : Nat} {sa : Nat → Nat} {A : Nat → Prop} {U U' : State} (hv : U'.vm = U.vm) (hh : U'.heap = U.heap) (h : amb tP sa A U U.heap) : amb tP sa A U' U'.heap := by
  obtain ⟨⟨a1, a2, a3, a4⟩, ⟨b1, b2, b3, b4, b5, b6, b7⟩, c1, d1⟩ := h
  have hal : U.vm.Alike U'.vm := by rw [hv]; exact Vm.Alike.refl U.vm
  rw [hh]
  refine ⟨⟨a1.moved hal, a2.moved hal, a3.moved hal, a4.moved hal⟩, ⟨b1.same hv, b2.same hv, b3.same hv, b4.same hv, b5.same hv, b6.same hv, b7.same hv⟩, fun w hw => ?_, d1.same hv⟩
  have h9 := List.all_eq_true.mp ngL_ok w hw
  simp only [Bool.and_eq_true] at h9
  exact va_tabs h9.1 hv.symm (c1 w hw)
theorem kept_P {D : va_G} {cl : List vw_C} {ws : va_W} {H : Heap} {t : State} (hP : va_P D cl ws H) (hk : ∀ q : Nat, q < H.size → t.heap[q]? = H[q]?) : va_P D cl ws t.heap := hP.kept (fun k9 x hx => hk x.1 ((hP k9 x hx).lt))
theorem kept_F {A : Nat → Prop} {s t : State} {H : Heap} {locs : List Loc} (hS : va_S A s.heap H locs) (hz : H.size ≤ t.heap.size) (hk : ∀ q : Nat, q < H.size → t.heap[q]? = H[q]?) : va_F A s t := ⟨Nat.le_trans hS.1 hz, fun q h1 h2 => (hk q (Nat.lt_of_lt_of_le h1 hS.1)).trans (hS.2.1 q h1 h2)⟩
