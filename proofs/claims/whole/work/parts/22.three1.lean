theorem prN_b (q : Nat) : 512 < prN q ∧ prN q ≤ 2 ^ 30 := by
  unfold prN
  split <;> omega
/-- the lowest k bits of e, below 0 too -/
def ex32 (e : Int32) (k : Nat) : Nat := (e.toInt % 2 ^ k).toNat
theorem ex32_lt (e : Int32) {k : Nat} : ex32 e k < 2 ^ k := by
  have h1 : (0 : Int) < 2 ^ k := Int.pow_pos (by omega)
  have h2 := emod_rng e.toInt h1
  have h3 : ((2 ^ k : Nat) : Int) = 2 ^ k := Int.natCast_pow 2 k
  unfold ex32
  omega
theorem ex32_and (e : Int32) {k : Nat} (hk : k ≤ 8) : e &&& nI (2 ^ k - 1) = nI (ex32 e k) := by
  apply Int32.toInt_inj.mp
  have hm : ∀ j : Nat, j < 9 → (nI (2 ^ j - 1)).toBitVec.toNat = 2 ^ j - 1 := by decide +kernel
  rw [Jvm.Kit.i32_mask e (nI (2 ^ k - 1)) (k := k) (by omega) (hm k (by omega))]
  have h1 : (0 : Int) < 2 ^ k := Int.pow_pos (by omega)
  have h2 := emod_rng e.toInt h1
  have h4 := ex32_lt e (k := k)
  have h5 := pw8 hk
  rw [nI_toInt (by omega)]
  unfold ex32
  omega
/-- Horner's sum: f j + f (j + 1) x + .. , m of them -/
def hz (f : Nat → Int32) (x : Int) (j : Nat) : Nat → Int
  | 0 => 0
  | m + 1 => (f j).toInt + x * hz f x (j + 1) m
theorem hz_step {f : Nat → Int32} {x s P : Int} {c m : Nat} (h : s % P = hz f x (c + 1) m % P) : (s * x + (f c).toInt).tmod P % P = hz f x c (m + 1) % P := by
  have h1 : ∀ y : Int, y.tmod P % P = y % P := by
    intro y
    rw [Int.tmod_def, Int.sub_emod, Int.mul_emod_right, Int.sub_zero, Int.emod_emod]
  rw [h1]
  show _ = ((f c).toInt + x * hz f x (c + 1) m) % P
  rw [Int.add_emod, Int.mul_emod, h, ← Int.mul_emod, ← Int.add_emod, Int.mul_comm, Int.add_comm]
theorem tmod_b (x : Int) {P : Int} (hP : 0 < P) : -P < x.tmod P ∧ x.tmod P < P := by
  refine ⟨?_, Int.tmod_lt_of_pos x hP⟩
  have h := Int.emod_nonneg x (show P ≠ 0 by omega)
  rw [Int.tmod_eq_emod]
  split <;> omega
theorem mul_sb {a b c : Int} (ha : -c < a) (ha2 : a < c) (hb : 0 ≤ b) (hb2 : b < c) (hc : c ≤ 2 ^ 30) : -2 ^ 60 < a * b ∧ a * b < 2 ^ 60 := by
  rcases Int.lt_or_le a 0 with h | h
  · have h1 := mul_b30 (a := -a) (b := b) (c := c) (by omega) (by omega) hb hb2 hc
    rw [Int.neg_mul] at h1
    omega
  · have h1 := mul_b30 h ha2 hb hb2 hc
    omega
theorem mul_i32 (a b : Int32) : -2 ^ 62 ≤ a.toInt * b.toInt ∧ a.toInt * b.toInt ≤ 2 ^ 62 := by
  have h1 := i32b a
  have h2 := i32b b
  have key : ∀ x y : Int, -2 ^ 31 ≤ x → x ≤ 2 ^ 31 → 0 ≤ y → y ≤ 2 ^ 31 → -2 ^ 62 ≤ x * y ∧ x * y ≤ 2 ^ 62 := by
    intro x y hx1 hx2 hy1 hy2
    have a1 : x * y ≤ 2 ^ 31 * y := Int.mul_le_mul_of_nonneg_right hx2 hy1
    have a2 : -2 ^ 31 * y ≤ x * y := Int.mul_le_mul_of_nonneg_right hx1 hy1
    omega
  rcases Int.lt_or_le b.toInt 0 with h | h
  · have := key (-a.toInt) (-b.toInt) (by omega) (by omega) (by omega) (by omega)
    rw [Int.neg_mul_neg] at this
    exact this
  · exact key _ _ (by omega) (by omega) h (by omega)
abbrev q_X3_places (dC : Nat → ClassId) (dI : Nat → Nat → Nat) (xo ra rb sm hh ps pb k rs : Nat) (A : Nat → Prop) : Array Value → State → Outcome → State → Prop := va_Qi (fun (r : Int32) (u : Unit) => r = nI (2 ^ k)) (fun u t => va_P (dC, dI) vwCl [(xo, .inr (2, [.int (nI k), .ref ra, .ref rb, .int (nI rs), .ref sm, .ref hh, .ref ps, .ref pb]))] t.heap ∧ va_D A [(xo, .inr (2, [.int (nI k), .ref ra, .ref rb, .int (nI rs), .ref sm, .ref hh, .ref ps, .ref pb]))]) A
set_option maxHeartbeats 4000000 in
set_option maxRecDepth 100000 in
theorem c_X3_places (l : Launch) (dC : Nat → ClassId) (dI : Nat → Nat → Nat) (xo ra rb sm hh ps pb k rs : Nat) (sz : Nat) (zk1 : 1 ≤ k) (zk : k ≤ 8) : Met l yX3_places wsX3_places ({ frames := 0, cells := 0, slots := 0, locals := 0 }) (va_Pc [.ref xo] (fun U => U.heap.size = sz ∧ va_P (dC, dI) vwCl [(xo, .inr (2, [.int (nI k), .ref ra, .ref rb, .int (nI rs), .ref sm, .ref hh, .ref ps, .ref pb]))] U.heap ∧ va_K (dC, dI) vwCl [] U ∧ va_D (fun _ => True) [(xo, .inr (2, [.int (nI k), .ref ra, .ref rb, .int (nI rs), .ref sm, .ref hh, .ref ps, .ref pb]))])) (q_X3_places dC dI xo ra rb sm hh ps pb k rs (va_A [(xo, .inr (2, [.int (nI k), .ref ra, .ref rb, .int (nI rs), .ref sm, .ref hh, .ref ps, .ref pb]))] sz)) 0 0 (va_A [(xo, .inr (2, [.int (nI k), .ref ra, .ref rb, .int (nI rs), .ref sm, .ref hh, .ref ps, .ref pb]))] sz) := by
  refine Met.ofW (cc := cX3_places) (maxL := 1) (ret := (some .int)) (by decide) rfl ?_
  intro p e s m args below meth c s₁ B hml hv
  obtain ⟨rfl, hsz, hP, hK, hD0⟩ := hv
  have hx := B.exec
  have hb := B.bytes
  have hr := B.returns
  have hts := atoms_spec (ws := wsX3_places) B.pre
  have hown : s.vm.findClass RX3 = some m.cls := findClass_of_methodNamed B.named
  have hlocks := B.notSynchronized
  subst hsz
  have hD := hD0.self (sz := s.heap.size)
  generalize hAe : va_A [(xo, .inr (2, [.int (nI k), .ref ra, .ref rb, .int (nI rs), .ref sm, .ref hh, .ref ps, .ref pb]))] s.heap.size = A at hD ⊢
  have hA : ∀ q : Nat, s.heap.size ≤ q → A q := fun q h => by rw [← hAe]; exact Or.inr h
  have hS : va_S A s.heap s.heap [] := va_S.rf
  have hP : va_P (dC, dI) vwCl [(xo, .inr (2, [.int (nI k), .ref ra, .ref rb, .int (nI rs), .ref sm, .ref hh, .ref ps, .ref pb]))] s.heap := hP
  have hl := lv_entry (([.ref xo] : List Value)) (n := 1) (Nat.le_of_ble_eq_true rfl)
  rw [lg_entry_eq]
  generalize (lg_sl (([.ref xo] : List Value)) ++ List.replicate (1 - (lg_sl (([.ref xo] : List Value))).length) Slot.unset).toArray = ls at hl ⊢
  have hl : lv_has ls 1 [(0, .ref xo)] := hl
  obtain ⟨H, hHe⟩ : ∃ H : Heap, H = s.heap := ⟨_, rfl⟩
  rw [← hHe] at hP
  have hS : va_S A s.heap H [] := by rw [hHe]; exact hS
  obtain ⟨locs, hlo⟩ : ∃ L : List Loc, L = [] := ⟨_, rfl⟩
  rw [← hlo] at hS ⊢
  rw [← hHe]
  have hpk := pw8 zk
  refine lv_iconst (v := nI 1) hx hb dX3_places_0 (by decide) ?_
  refine lv_aload_n hx hb dX3_places_1 rfl (lv_at hl 0 rfl) ?_
  refine va_get (D := (dC, dI)) (ci := 2) (v := .int (nI k)) (C := RX3) (T := TX3) (N := 8) hx hb hts (by decide +kernel) hown hK hP 0 rfl rfl 0 (by decide) (hts (.fieldLink RX3 9 "ThreePrimes" "levels" "I") (by decide +kernel)) (fun _ h9 => h9) rfl dX3_places_2 ?_
  refine lv_ishl hx hb dX3_places_5 ?_
  refine W.eq (congrArg (fun z => F0 m _ ls (.int z :: _)) (show (nI 1) <<< ((nI k) &&& 31) = nI (2 ^ k) from zz_shl (by omega))) ?_
  have hP9 : va_P (dC, dI) vwCl [(xo, .inr (2, [.int (nI k), .ref ra, .ref rb, .int (nI rs), .ref sm, .ref hh, .ref ps, .ref pb]))] H := hP.sub [0] rfl
  have hD9 : va_D A [(xo, .inr (2, [.int (nI k), .ref ra, .ref rb, .int (nI rs), .ref sm, .ref hh, .ref ps, .ref pb]))] := hD.sub [0] (by decide) rfl
  exact W.iret (v := nI (2 ^ k)) hx hb hr (fun t ht hW => ⟨⟨nI (2 ^ k), (), rfl, rfl, by rw [ht]; exact hP9, hD9⟩, hS.F ht⟩) hS.2.2 dX3_places_6

abbrev q_X3_requirePlace_ok (dC : Nat → ClassId) (dI : Nat → Nat → Nat) (xo ra rb sm hh ps pb k rs : Nat) (j : Nat) (A : Nat → Prop) : Array Value → State → Outcome → State → Prop := va_Qv (fun (u : Unit) => True) (fun u t => va_P (dC, dI) vwCl [(xo, .inr (2, [.int (nI k), .ref ra, .ref rb, .int (nI rs), .ref sm, .ref hh, .ref ps, .ref pb]))] t.heap ∧ va_D A [(xo, .inr (2, [.int (nI k), .ref ra, .ref rb, .int (nI rs), .ref sm, .ref hh, .ref ps, .ref pb]))]) A
set_option maxHeartbeats 4000000 in
set_option maxRecDepth 100000 in
theorem c_X3_requirePlace_ok (l : Launch) (dC : Nat → ClassId) (dI : Nat → Nat → Nat) (xo ra rb sm hh ps pb k rs : Nat) (j : Nat) (sz : Nat) (zk1 : 1 ≤ k) (zk : k ≤ 8) (zj : j < 2 ^ k) : Met l yX3_requirePlace wsX3_requirePlace ({ frames := 1, cells := 0, slots := 0, locals := 20 }) (va_Pc [.ref xo, .int (nI j)] (fun U => U.heap.size = sz ∧ va_P (dC, dI) vwCl [(xo, .inr (2, [.int (nI k), .ref ra, .ref rb, .int (nI rs), .ref sm, .ref hh, .ref ps, .ref pb]))] U.heap ∧ va_K (dC, dI) vwCl [] U ∧ va_D (fun _ => True) [(xo, .inr (2, [.int (nI k), .ref ra, .ref rb, .int (nI rs), .ref sm, .ref hh, .ref ps, .ref pb]))])) (q_X3_requirePlace_ok dC dI xo ra rb sm hh ps pb k rs j (va_A [(xo, .inr (2, [.int (nI k), .ref ra, .ref rb, .int (nI rs), .ref sm, .ref hh, .ref ps, .ref pb]))] sz)) 0 0 (va_A [(xo, .inr (2, [.int (nI k), .ref ra, .ref rb, .int (nI rs), .ref sm, .ref hh, .ref ps, .ref pb]))] sz) := by
  refine Met.ofW (cc := cX3_requirePlace) (maxL := 2) (ret := none) (by decide) rfl ?_
  intro p e s m args below meth c s₁ B hml hv
  obtain ⟨rfl, hsz, hP, hK, hD0⟩ := hv
  have hx := B.exec
  have hb := B.bytes
  have hr := B.returns
  have hts := atoms_spec (ws := wsX3_requirePlace) B.pre
  have hown : s.vm.findClass RX3 = some m.cls := findClass_of_methodNamed B.named
  have hlocks := B.notSynchronized
  subst hsz
  have hD := hD0.self (sz := s.heap.size)
  generalize hAe : va_A [(xo, .inr (2, [.int (nI k), .ref ra, .ref rb, .int (nI rs), .ref sm, .ref hh, .ref ps, .ref pb]))] s.heap.size = A at hD ⊢
  have hA : ∀ q : Nat, s.heap.size ≤ q → A q := fun q h => by rw [← hAe]; exact Or.inr h
  have hS : va_S A s.heap s.heap [] := va_S.rf
  have hP : va_P (dC, dI) vwCl [(xo, .inr (2, [.int (nI k), .ref ra, .ref rb, .int (nI rs), .ref sm, .ref hh, .ref ps, .ref pb]))] s.heap := hP
  have hl := lv_entry (([.ref xo, .int (nI j)] : List Value)) (n := 2) (Nat.le_of_ble_eq_true rfl)
  rw [lg_entry_eq]
  generalize (lg_sl (([.ref xo, .int (nI j)] : List Value)) ++ List.replicate (2 - (lg_sl (([.ref xo, .int (nI j)] : List Value))).length) Slot.unset).toArray = ls at hl ⊢
  have hl : lv_has ls 2 [(0, .ref xo), (1, .int (nI j))] := hl
  obtain ⟨H, hHe⟩ : ∃ H : Heap, H = s.heap := ⟨_, rfl⟩
  rw [← hHe] at hP
  have hS : va_S A s.heap H [] := by rw [hHe]; exact hS
  obtain ⟨locs, hlo⟩ : ∃ L : List Loc, L = [] := ⟨_, rfl⟩
  rw [← hlo] at hS ⊢
  rw [← hHe]
  have hpk := pw8 zk
  refine lv_iload_n hx hb dX3_requirePlace_0 rfl (lv_at hl 1 rfl) ?_
  refine lv_if_lt (tgt := 12) hx hb dX3_requirePlace_1 (by decide) (fun c_1 => ?_) (fun c_1 => ?_)
  · have c_1 : j < 0 := (nI_ltI (a := j) (b := 0) (by omega) (by omega)).mp c_1
    omega
  · have c_1 : ¬ (j < 0) := fun zq9 => c_1 ((nI_ltI (a := j) (b := 0) (by omega) (by omega)).mpr zq9)
    refine lv_iload_n hx hb dX3_requirePlace_4 rfl (lv_at hl 1 rfl) ?_
    refine lv_aload_n hx hb dX3_requirePlace_5 rfl (lv_at hl 0 rfl) ?_
    have hPc := hP.sub (ws' := [(xo, .inr (2, [.int (nI k), .ref ra, .ref rb, .int (nI rs), .ref sm, .ref hh, .ref ps, .ref pb]))]) [0] rfl
    have hDc := hD.sub (ws' := [(xo, .inr (2, [.int (nI k), .ref ra, .ref rb, .int (nI rs), .ref sm, .ref hh, .ref ps, .ref pb]))]) [0] (by decide) rfl
    have hKc := hK.sub (tys' := []) [] rfl
    have hFc := va_free (wc := [(xo, .inr (2, [.int (nI k), .ref ra, .ref rb, .int (nI rs), .ref sm, .ref hh, .ref ps, .ref pb]))]) hD hS hA [0] rfl
    refine va_calli (va_runV (As := []) (rest := [.int (nI j)]) ⟨hx, hb, hml, hown, hts⟩ (c_X3_places l dC dI xo ra rb sm hh ps pb k rs H.size (by omega) (by omega)) (cwV 0 hts gX3_requirePlace_X3_places rfl rfl rfl (by decide +kernel) ⟨Nat.le_of_ble_eq_true rfl, Nat.le_of_ble_eq_true rfl⟩) ⟨fun a U g mk q => by obtain ⟨q0, q1, qP, qK, qD⟩ := q; exact ⟨q0, q1, qP, va_K.moved (u := U) (U := U.calling g mk a) (Vm.Alike.refl U.vm) qK, qD⟩, va_recv hKc hPc (ci := 2) (q0 := 0) rfl rfl, fun U hU hW => ⟨rfl, by rw [hU], by rw [hU]; exact hPc, va_K.moved hW.alike hKc, hDc.weaken (fun _ _ _ _ => trivial)⟩⟩ rfl rfl hl.1 rfl (lv_room (Nat.le_of_ble_eq_true rfl)) dX3_requirePlace_6 ⟨Nat.le_of_ble_eq_true rfl, Nat.le_of_ble_eq_true rfl⟩) hS (fun q _ h => hFc q h) hFc (fun r9 u9 t9 H1 locs ht hvm hw hB hz1 hk1 hS => ?_)
    obtain ⟨hP1, hD1⟩ := hB
    rw [ht] at hP1
    try dsimp only at hw
    obtain ⟨hP, hD⟩ := va_join (wr := []) (w1 := [(xo, .inr (2, [.int (nI k), .ref ra, .ref rb, .int (nI rs), .ref sm, .ref hh, .ref ps, .ref pb]))]) hP hD [0] [] rfl rfl (by decide) (by decide) hk1 hFc hP1 hD1
    generalize H1 = H at hP hS ⊢
    have hP : va_P (dC, dI) vwCl [(xo, .inr (2, [.int (nI k), .ref ra, .ref rb, .int (nI rs), .ref sm, .ref hh, .ref ps, .ref pb]))] H := hP
    have hD : va_D A [(xo, .inr (2, [.int (nI k), .ref ra, .ref rb, .int (nI rs), .ref sm, .ref hh, .ref ps, .ref pb]))] := hD
    clear hPc hDc hKc hFc hP1 hD1 hk1 hz1 hvm ht
    subst hw
    refine lv_icmp_lt (tgt := 22) hx hb dX3_requirePlace_9 (by decide) (fun c_2 => ?_) (fun c_2 => ?_)
    · have c_2 : j < 2 ^ k := (nI_ltI (a := j) (b := 2 ^ k) (by omega) (by omega)).mp c_2
      have hP9 : va_P (dC, dI) vwCl [(xo, .inr (2, [.int (nI k), .ref ra, .ref rb, .int (nI rs), .ref sm, .ref hh, .ref ps, .ref pb]))] H := hP.sub [0] rfl
      have hD9 : va_D A [(xo, .inr (2, [.int (nI k), .ref ra, .ref rb, .int (nI rs), .ref sm, .ref hh, .ref ps, .ref pb]))] := hD.sub [0] (by decide) rfl
      exact W.vret hx hb hr (fun t ht hW => ⟨⟨(), rfl, trivial, by rw [ht]; exact hP9, hD9⟩, hS.F ht⟩) hS.2.2 dX3_requirePlace_22
    · have c_2 : ¬ (j < 2 ^ k) := fun zq9 => c_2 ((nI_ltI (a := j) (b := 2 ^ k) (by omega) (by omega)).mpr zq9)
      omega

abbrev q_X3_requireResult_ok (dC : Nat → ClassId) (dI : Nat → Nat → Nat) (xo ra rb sm hh ps pb k rs : Nat) (j : Nat) (A : Nat → Prop) : Array Value → State → Outcome → State → Prop := va_Qv (fun (u : Unit) => True) (fun u t => va_P (dC, dI) vwCl [(xo, .inr (2, [.int (nI k), .ref ra, .ref rb, .int (nI rs), .ref sm, .ref hh, .ref ps, .ref pb]))] t.heap ∧ va_D A [(xo, .inr (2, [.int (nI k), .ref ra, .ref rb, .int (nI rs), .ref sm, .ref hh, .ref ps, .ref pb]))]) A
set_option maxHeartbeats 4000000 in
set_option maxRecDepth 100000 in
theorem c_X3_requireResult_ok (l : Launch) (dC : Nat → ClassId) (dI : Nat → Nat → Nat) (xo ra rb sm hh ps pb k rs : Nat) (j : Nat) (sz : Nat) (zj : j < rs) (zrs : rs ≤ 511) : Met l yX3_requireResult wsX3_requireResult ({ frames := 0, cells := 0, slots := 0, locals := 0 }) (va_Pc [.ref xo, .int (nI j)] (fun U => U.heap.size = sz ∧ va_P (dC, dI) vwCl [(xo, .inr (2, [.int (nI k), .ref ra, .ref rb, .int (nI rs), .ref sm, .ref hh, .ref ps, .ref pb]))] U.heap ∧ va_K (dC, dI) vwCl [] U ∧ va_D (fun _ => True) [(xo, .inr (2, [.int (nI k), .ref ra, .ref rb, .int (nI rs), .ref sm, .ref hh, .ref ps, .ref pb]))])) (q_X3_requireResult_ok dC dI xo ra rb sm hh ps pb k rs j (va_A [(xo, .inr (2, [.int (nI k), .ref ra, .ref rb, .int (nI rs), .ref sm, .ref hh, .ref ps, .ref pb]))] sz)) 0 0 (va_A [(xo, .inr (2, [.int (nI k), .ref ra, .ref rb, .int (nI rs), .ref sm, .ref hh, .ref ps, .ref pb]))] sz) := by
  refine Met.ofW (cc := cX3_requireResult) (maxL := 2) (ret := none) (by decide) rfl ?_
  intro p e s m args below meth c s₁ B hml hv
  obtain ⟨rfl, hsz, hP, hK, hD0⟩ := hv
  have hx := B.exec
  have hb := B.bytes
  have hr := B.returns
  have hts := atoms_spec (ws := wsX3_requireResult) B.pre
  have hown : s.vm.findClass RX3 = some m.cls := findClass_of_methodNamed B.named
  have hlocks := B.notSynchronized
  subst hsz
  have hD := hD0.self (sz := s.heap.size)
  generalize hAe : va_A [(xo, .inr (2, [.int (nI k), .ref ra, .ref rb, .int (nI rs), .ref sm, .ref hh, .ref ps, .ref pb]))] s.heap.size = A at hD ⊢
  have hA : ∀ q : Nat, s.heap.size ≤ q → A q := fun q h => by rw [← hAe]; exact Or.inr h
  have hS : va_S A s.heap s.heap [] := va_S.rf
  have hP : va_P (dC, dI) vwCl [(xo, .inr (2, [.int (nI k), .ref ra, .ref rb, .int (nI rs), .ref sm, .ref hh, .ref ps, .ref pb]))] s.heap := hP
  have hl := lv_entry (([.ref xo, .int (nI j)] : List Value)) (n := 2) (Nat.le_of_ble_eq_true rfl)
  rw [lg_entry_eq]
  generalize (lg_sl (([.ref xo, .int (nI j)] : List Value)) ++ List.replicate (2 - (lg_sl (([.ref xo, .int (nI j)] : List Value))).length) Slot.unset).toArray = ls at hl ⊢
  have hl : lv_has ls 2 [(0, .ref xo), (1, .int (nI j))] := hl
  obtain ⟨H, hHe⟩ : ∃ H : Heap, H = s.heap := ⟨_, rfl⟩
  rw [← hHe] at hP
  have hS : va_S A s.heap H [] := by rw [hHe]; exact hS
  obtain ⟨locs, hlo⟩ : ∃ L : List Loc, L = [] := ⟨_, rfl⟩
  rw [← hlo] at hS ⊢
  rw [← hHe]
  refine lv_iload_n hx hb dX3_requireResult_0 rfl (lv_at hl 1 rfl) ?_
  refine lv_if_lt (tgt := 12) hx hb dX3_requireResult_1 (by decide) (fun c_1 => ?_) (fun c_1 => ?_)
  · have c_1 : j < 0 := (nI_ltI (a := j) (b := 0) (by omega) (by omega)).mp c_1
    omega
  · have c_1 : ¬ (j < 0) := fun zq9 => c_1 ((nI_ltI (a := j) (b := 0) (by omega) (by omega)).mpr zq9)
    refine lv_iload_n hx hb dX3_requireResult_4 rfl (lv_at hl 1 rfl) ?_
    refine lv_aload_n hx hb dX3_requireResult_5 rfl (lv_at hl 0 rfl) ?_
    refine va_get (D := (dC, dI)) (ci := 2) (v := .int (nI rs)) (C := RX3) (T := TX3) (N := 8) hx hb hts (by decide +kernel) hown hK hP 0 rfl rfl 3 (by decide) (hts (.fieldLink RX3 20 "ThreePrimes" "results" "I") (by decide +kernel)) (fun _ h9 => h9) rfl dX3_requireResult_6 ?_
    refine lv_icmp_lt (tgt := 22) hx hb dX3_requireResult_9 (by decide) (fun c_2 => ?_) (fun c_2 => ?_)
    · have c_2 : j < rs := (nI_ltI (a := j) (b := rs) (by omega) (by omega)).mp c_2
      have hP9 : va_P (dC, dI) vwCl [(xo, .inr (2, [.int (nI k), .ref ra, .ref rb, .int (nI rs), .ref sm, .ref hh, .ref ps, .ref pb]))] H := hP.sub [0] rfl
      have hD9 : va_D A [(xo, .inr (2, [.int (nI k), .ref ra, .ref rb, .int (nI rs), .ref sm, .ref hh, .ref ps, .ref pb]))] := hD.sub [0] (by decide) rfl
      exact W.vret hx hb hr (fun t ht hW => ⟨⟨(), rfl, trivial, by rw [ht]; exact hP9, hD9⟩, hS.F ht⟩) hS.2.2 dX3_requireResult_22
    · have c_2 : ¬ (j < rs) := fun zq9 => c_2 ((nI_ltI (a := j) (b := rs) (by omega) (by omega)).mpr zq9)
      omega

abbrev q_X3_requirePrime_ok (dC : Nat → ClassId) (dI : Nat → Nat → Nat) (xo ra rb sm hh ps pb k rs : Nat) (q : Nat) (A : Nat → Prop) : Array Value → State → Outcome → State → Prop := va_Qv (fun (u : Unit) => True) (fun u t => va_P (dC, dI) vwCl [(xo, .inr (2, [.int (nI k), .ref ra, .ref rb, .int (nI rs), .ref sm, .ref hh, .ref ps, .ref pb]))] t.heap ∧ va_D A [(xo, .inr (2, [.int (nI k), .ref ra, .ref rb, .int (nI rs), .ref sm, .ref hh, .ref ps, .ref pb]))]) A
set_option maxHeartbeats 4000000 in
set_option maxRecDepth 100000 in
theorem c_X3_requirePrime_ok (l : Launch) (dC : Nat → ClassId) (dI : Nat → Nat → Nat) (xo ra rb sm hh ps pb k rs : Nat) (q : Nat) (sz : Nat) (tP : Nat) (sa : Nat → Nat) (zq : q < 3) : Met l yX3_requirePrime wsX3_requirePrime ({ frames := 0, cells := 0, slots := 0, locals := 0 }) (va_Pc [.ref xo, .int (nI q)] (fun U => U.heap.size = sz ∧ va_P (dC, dI) vwCl [(xo, .inr (2, [.int (nI k), .ref ra, .ref rb, .int (nI rs), .ref sm, .ref hh, .ref ps, .ref pb]))] U.heap ∧ va_K (dC, dI) vwCl [] U ∧ va_D (fun _ => True) [(xo, .inr (2, [.int (nI k), .ref ra, .ref rb, .int (nI rs), .ref sm, .ref hh, .ref ps, .ref pb]))] ∧ amb tP sa (va_A [(xo, .inr (2, [.int (nI k), .ref ra, .ref rb, .int (nI rs), .ref sm, .ref hh, .ref ps, .ref pb]))] sz) U U.heap)) (q_X3_requirePrime_ok dC dI xo ra rb sm hh ps pb k rs q (va_A [(xo, .inr (2, [.int (nI k), .ref ra, .ref rb, .int (nI rs), .ref sm, .ref hh, .ref ps, .ref pb]))] sz)) 0 0 (va_A [(xo, .inr (2, [.int (nI k), .ref ra, .ref rb, .int (nI rs), .ref sm, .ref hh, .ref ps, .ref pb]))] sz) := by
  refine Met.ofW (cc := cX3_requirePrime) (maxL := 2) (ret := none) (by decide) rfl ?_
  intro p e s m args below meth c s₁ B hml hv
  obtain ⟨rfl, hsz, hP, hK, hD0, hM⟩ := hv
  have hx := B.exec
  have hb := B.bytes
  have hr := B.returns
  have hts := atoms_spec (ws := wsX3_requirePrime) B.pre
  have hown : s.vm.findClass RX3 = some m.cls := findClass_of_methodNamed B.named
  have hlocks := B.notSynchronized
  subst hsz
  have hD := hD0.self (sz := s.heap.size)
  generalize hAe : va_A [(xo, .inr (2, [.int (nI k), .ref ra, .ref rb, .int (nI rs), .ref sm, .ref hh, .ref ps, .ref pb]))] s.heap.size = A at hD hM ⊢
  have hA : ∀ q : Nat, s.heap.size ≤ q → A q := fun q h => by rw [← hAe]; exact Or.inr h
  have hS : va_S A s.heap s.heap [] := va_S.rf
  have hP : va_P (dC, dI) vwCl [(xo, .inr (2, [.int (nI k), .ref ra, .ref rb, .int (nI rs), .ref sm, .ref hh, .ref ps, .ref pb]))] s.heap := hP
  have hl := lv_entry (([.ref xo, .int (nI q)] : List Value)) (n := 2) (Nat.le_of_ble_eq_true rfl)
  rw [lg_entry_eq]
  generalize (lg_sl (([.ref xo, .int (nI q)] : List Value)) ++ List.replicate (2 - (lg_sl (([.ref xo, .int (nI q)] : List Value))).length) Slot.unset).toArray = ls at hl ⊢
  have hl : lv_has ls 2 [(0, .ref xo), (1, .int (nI q))] := hl
  obtain ⟨H, hHe⟩ : ∃ H : Heap, H = s.heap := ⟨_, rfl⟩
  rw [← hHe] at hP
  have hS : va_S A s.heap H [] := by rw [hHe]; exact hS
  obtain ⟨locs, hlo⟩ : ∃ L : List Loc, L = [] := ⟨_, rfl⟩
  rw [← hlo] at hS ⊢
  rw [← hHe]
  refine lv_iload_n hx hb dX3_requirePrime_0 rfl (lv_at hl 1 rfl) ?_
  refine lv_if_lt (tgt := 12) hx hb dX3_requirePrime_1 (by decide) (fun c_1 => ?_) (fun c_1 => ?_)
  · have c_1 : q < 0 := (nI_ltI (a := q) (b := 0) (by omega) (by omega)).mp c_1
    omega
  · have c_1 : ¬ (q < 0) := fun zq9 => c_1 ((nI_ltI (a := q) (b := 0) (by omega) (by omega)).mpr zq9)
    refine lv_iload_n hx hb dX3_requirePrime_4 rfl (lv_at hl 1 rfl) ?_
    refine va_gets hx hb hM.1.1 hS hown (hts (.fieldLink RX3 99 "ThreePrimes" "PRIMES" "[I") (by decide +kernel)) (fun _ h9 => h9) dX3_requirePrime_5 ?_
    refine va_tlen (v := nI 3) hx hb hM.1.2.1 hS rfl dX3_requirePrime_8 ?_
    refine lv_icmp_lt (tgt := 22) hx hb dX3_requirePrime_9 (by decide) (fun c_2 => ?_) (fun c_2 => ?_)
    · have c_2 : q < 3 := (nI_ltI (a := q) (b := 3) (by omega) (by omega)).mp c_2
      have hP9 : va_P (dC, dI) vwCl [(xo, .inr (2, [.int (nI k), .ref ra, .ref rb, .int (nI rs), .ref sm, .ref hh, .ref ps, .ref pb]))] H := hP.sub [0] rfl
      have hD9 : va_D A [(xo, .inr (2, [.int (nI k), .ref ra, .ref rb, .int (nI rs), .ref sm, .ref hh, .ref ps, .ref pb]))] := hD.sub [0] (by decide) rfl
      exact W.vret hx hb hr (fun t ht hW => ⟨⟨(), rfl, trivial, by rw [ht]; exact hP9, hD9⟩, hS.F ht⟩) hS.2.2 dX3_requirePrime_22
    · have c_2 : ¬ (q < 3) := fun zq9 => c_2 ((nI_ltI (a := q) (b := 3) (by omega) (by omega)).mpr zq9)
      omega

abbrev q_X3_requirePlace_bad (dC : Nat → ClassId) (dI : Nat → Nat → Nat) (xo ra rb sm hh ps pb k rs : Nat) (i : Int32) (A : Nat → Prop) : Array Value → State → Outcome → State → Prop := va_Qv (fun (u : Unit) => False) (fun u t => va_P (dC, dI) vwCl [(xo, .inr (2, [.int (nI k), .ref ra, .ref rb, .int (nI rs), .ref sm, .ref hh, .ref ps, .ref pb]))] t.heap ∧ va_D A [(xo, .inr (2, [.int (nI k), .ref ra, .ref rb, .int (nI rs), .ref sm, .ref hh, .ref ps, .ref pb]))]) A
abbrev x_X3_requirePlace_bad (dC : Nat → ClassId) (dI : Nat → Nat → Nat) (xo ra rb sm hh ps pb k rs : Nat) (i : Int32) (A : Nat → Prop) : String → State → State → Prop := vx_X (fun _ : Unit => True) (fun E _ t => (E = "java/lang/IndexOutOfBoundsException") ∧ va_P (dC, dI) vwCl [(xo, .inr (2, [.int (nI k), .ref ra, .ref rb, .int (nI rs), .ref sm, .ref hh, .ref ps, .ref pb]))] t.heap ∧ va_D A [(xo, .inr (2, [.int (nI k), .ref ra, .ref rb, .int (nI rs), .ref sm, .ref hh, .ref ps, .ref pb]))]) A
set_option maxHeartbeats 4000000 in
set_option maxRecDepth 100000 in
theorem c_X3_requirePlace_bad (l : Launch) (dC : Nat → ClassId) (dI : Nat → Nat → Nat) (xo ra rb sm hh ps pb k rs : Nat) (i : Int32) (sz : Nat) (hl9 : l.stackTraces = false) (tP : Nat) (sa : Nat → Nat) (zk1 : 1 ≤ k) (zk : k ≤ 8) (hbad : i < 0 ∨ nI (2 ^ k) ≤ i) : vx_Met l yX3_requirePlace wsX3_requirePlace ({ frames := 6, cells := 1, slots := 6, locals := 82 }) (va_Pc [.ref xo, .int i] (fun U => U.heap.size = sz ∧ va_P (dC, dI) vwCl [(xo, .inr (2, [.int (nI k), .ref ra, .ref rb, .int (nI rs), .ref sm, .ref hh, .ref ps, .ref pb]))] U.heap ∧ va_K (dC, dI) vwCl [] U ∧ va_D (fun _ => True) [(xo, .inr (2, [.int (nI k), .ref ra, .ref rb, .int (nI rs), .ref sm, .ref hh, .ref ps, .ref pb]))] ∧ amb tP sa (va_A [(xo, .inr (2, [.int (nI k), .ref ra, .ref rb, .int (nI rs), .ref sm, .ref hh, .ref ps, .ref pb]))] sz) U U.heap)) (q_X3_requirePlace_bad dC dI xo ra rb sm hh ps pb k rs i (va_A [(xo, .inr (2, [.int (nI k), .ref ra, .ref rb, .int (nI rs), .ref sm, .ref hh, .ref ps, .ref pb]))] sz)) (x_X3_requirePlace_bad dC dI xo ra rb sm hh ps pb k rs i (va_A [(xo, .inr (2, [.int (nI k), .ref ra, .ref rb, .int (nI rs), .ref sm, .ref hh, .ref ps, .ref pb]))] sz)) 1 6 (va_A [(xo, .inr (2, [.int (nI k), .ref ra, .ref rb, .int (nI rs), .ref sm, .ref hh, .ref ps, .ref pb]))] sz) := by
  refine vx_ofW (cc := cX3_requirePlace) (maxL := 2) (ret := none) (by decide) rfl ?_
  intro p e s m args below meth c s₁ B hml htab hv
  obtain ⟨rfl, hsz, hP, hK, hD0, hM⟩ := hv
  have hx := B.exec
  have hb := B.bytes
  have hr := B.returns
  have hts := atoms_spec (ws := wsX3_requirePlace) B.pre
  have hown : s.vm.findClass RX3 = some m.cls := findClass_of_methodNamed B.named
  have hlocks := B.notSynchronized
  subst hsz
  have hD := hD0.self (sz := s.heap.size)
  generalize hAe : va_A [(xo, .inr (2, [.int (nI k), .ref ra, .ref rb, .int (nI rs), .ref sm, .ref hh, .ref ps, .ref pb]))] s.heap.size = A at hD hM ⊢
  have hA : ∀ q : Nat, s.heap.size ≤ q → A q := fun q h => by rw [← hAe]; exact Or.inr h
  have hS : va_S A s.heap s.heap [] := va_S.rf
  have hP : va_P (dC, dI) vwCl [(xo, .inr (2, [.int (nI k), .ref ra, .ref rb, .int (nI rs), .ref sm, .ref hh, .ref ps, .ref pb]))] s.heap := hP
  have hl := lv_entry (([.ref xo, .int i] : List Value)) (n := 2) (Nat.le_of_ble_eq_true rfl)
  rw [lg_entry_eq]
  generalize (lg_sl (([.ref xo, .int i] : List Value)) ++ List.replicate (2 - (lg_sl (([.ref xo, .int i] : List Value))).length) Slot.unset).toArray = ls at hl ⊢
  have hl : lv_has ls 2 [(0, .ref xo), (1, .int i)] := hl
  obtain ⟨H, hHe⟩ : ∃ H : Heap, H = s.heap := ⟨_, rfl⟩
  rw [← hHe] at hP
  have hS : va_S A s.heap H [] := by rw [hHe]; exact hS
  obtain ⟨locs, hlo⟩ : ∃ L : List Loc, L = [] := ⟨_, rfl⟩
  rw [← hlo] at hS ⊢
  rw [← hHe]
  have hpk := pw8 zk
  refine lv_iload_n hx hb dX3_requirePlace_0 rfl (lv_at hl 1 rfl) ?_
  refine lv_if_lt (tgt := 12) hx hb dX3_requirePlace_1 (by decide) (fun c_1 => ?_) (fun c_1 => ?_)
  · have hat : ∀ w ∈ vx_atS RX3 126 "java/lang/IndexOutOfBoundsException" ["java/lang/RuntimeException", "java/lang/Exception"], w.before _ s = true := vx_hat (fun w hw => hts w (List.mem_cons_of_mem _ (List.mem_append_right _ hw))) (fun w hw => List.mem_append_right _ (List.mem_append_left _ hw)) (fun w hw => by have h9 := List.all_eq_true.mp ngL_ok w hw; simp only [Bool.and_eq_true] at h9; exact va_tabs h9.1 rfl (hM.2.2.1 w hw))
    have hP9 : va_P (dC, dI) vwCl [(xo, .inr (2, [.int (nI k), .ref ra, .ref rb, .int (nI rs), .ref sm, .ref hh, .ref ps, .ref pb]))] H := hP.sub [0] rfl
    have hD9 : va_D A [(xo, .inr (2, [.int (nI k), .ref ra, .ref rb, .int (nI rs), .ref sm, .ref hh, .ref ps, .ref pb]))] := hD.sub [0] (by decide) rfl
    exact vx_throwS hx hb hl9 (own := RX3) (cls := "java/lang/IndexOutOfBoundsException") (text := "there is no such place") (names := ["java/lang/RuntimeException", "java/lang/Exception"]) (A := A) hown (by decide +kernel) (by decide +kernel) (hts (.classLink RX3 122 "java/lang/IndexOutOfBoundsException") (by decide +kernel)) (hts (.initialized "java/lang/IndexOutOfBoundsException") (by decide +kernel)) hM.2.1.2.2.2.2.1 hat (by decide +kernel) hM.1.2.2.1 hM.1.2.2.2 hS (hl.1.trans hml.symm) dX3_requirePlace_12 dX3_requirePlace_15 dX3_requirePlace_16 dX3_requirePlace_18 dX3_requirePlace_21 (fun x h => (htab x h).elim) (Nat.le_of_ble_eq_true rfl) (Nat.le_of_ble_eq_true rfl) (Nat.le_of_ble_eq_true rfl) (Nat.le_of_ble_eq_true rfl) hlocks (fun t hal hz hk => ⟨(), trivial, ⟨rfl, kept_P hP9 hk, hD9⟩, kept_F hS hz hk⟩) hS.2.2 (Nat.le_of_ble_eq_true rfl) (Nat.le_of_ble_eq_true rfl)
  · refine lv_iload_n hx hb dX3_requirePlace_4 rfl (lv_at hl 1 rfl) ?_
    refine lv_aload_n hx hb dX3_requirePlace_5 rfl (lv_at hl 0 rfl) ?_
    have hPc := hP.sub (ws' := [(xo, .inr (2, [.int (nI k), .ref ra, .ref rb, .int (nI rs), .ref sm, .ref hh, .ref ps, .ref pb]))]) [0] rfl
    have hDc := hD.sub (ws' := [(xo, .inr (2, [.int (nI k), .ref ra, .ref rb, .int (nI rs), .ref sm, .ref hh, .ref ps, .ref pb]))]) [0] (by decide) rfl
    have hKc := hK.sub (tys' := []) [] rfl
    have hFc := va_free (wc := [(xo, .inr (2, [.int (nI k), .ref ra, .ref rb, .int (nI rs), .ref sm, .ref hh, .ref ps, .ref pb]))]) hD hS hA [0] rfl
    refine va_calli (va_runV (As := []) (rest := [.int i]) ⟨hx, hb, hml, hown, hts⟩ (c_X3_places l dC dI xo ra rb sm hh ps pb k rs H.size (by omega) (by omega)) (cwV 0 hts gX3_requirePlace_X3_places rfl rfl rfl (by decide +kernel) ⟨Nat.le_of_ble_eq_true rfl, Nat.le_of_ble_eq_true rfl⟩) ⟨fun a U g mk q => by obtain ⟨q0, q1, qP, qK, qD⟩ := q; exact ⟨q0, q1, qP, va_K.moved (u := U) (U := U.calling g mk a) (Vm.Alike.refl U.vm) qK, qD⟩, va_recv hKc hPc (ci := 2) (q0 := 0) rfl rfl, fun U hU hW => ⟨rfl, by rw [hU], by rw [hU]; exact hPc, va_K.moved hW.alike hKc, hDc.weaken (fun _ _ _ _ => trivial)⟩⟩ rfl rfl hl.1 rfl (lv_room (Nat.le_of_ble_eq_true rfl)) dX3_requirePlace_6 ⟨Nat.le_of_ble_eq_true rfl, Nat.le_of_ble_eq_true rfl⟩) hS (fun q _ h => hFc q h) hFc (fun r9 u9 t9 H1 locs ht hvm hw hB hz1 hk1 hS => ?_)
    obtain ⟨hP1, hD1⟩ := hB
    rw [ht] at hP1
    try dsimp only at hw
    obtain ⟨hP, hD⟩ := va_join (wr := []) (w1 := [(xo, .inr (2, [.int (nI k), .ref ra, .ref rb, .int (nI rs), .ref sm, .ref hh, .ref ps, .ref pb]))]) hP hD [0] [] rfl rfl (by decide) (by decide) hk1 hFc hP1 hD1
    generalize H1 = H at hP hS ⊢
    have hP : va_P (dC, dI) vwCl [(xo, .inr (2, [.int (nI k), .ref ra, .ref rb, .int (nI rs), .ref sm, .ref hh, .ref ps, .ref pb]))] H := hP
    have hD : va_D A [(xo, .inr (2, [.int (nI k), .ref ra, .ref rb, .int (nI rs), .ref sm, .ref hh, .ref ps, .ref pb]))] := hD
    clear hPc hDc hKc hFc hP1 hD1 hk1 hz1 hvm ht
    subst hw
    refine lv_icmp_lt (tgt := 22) hx hb dX3_requirePlace_9 (by decide) (fun c_2 => ?_) (fun c_2 => ?_)
    · exact absurd c_2 (Int32.not_lt.mpr (hbad.resolve_left c_1))
    · have hat : ∀ w ∈ vx_atS RX3 126 "java/lang/IndexOutOfBoundsException" ["java/lang/RuntimeException", "java/lang/Exception"], w.before _ s = true := vx_hat (fun w hw => hts w (List.mem_cons_of_mem _ (List.mem_append_right _ hw))) (fun w hw => List.mem_append_right _ (List.mem_append_left _ hw)) (fun w hw => by have h9 := List.all_eq_true.mp ngL_ok w hw; simp only [Bool.and_eq_true] at h9; exact va_tabs h9.1 rfl (hM.2.2.1 w hw))
      have hP9 : va_P (dC, dI) vwCl [(xo, .inr (2, [.int (nI k), .ref ra, .ref rb, .int (nI rs), .ref sm, .ref hh, .ref ps, .ref pb]))] H := hP.sub [0] rfl
      have hD9 : va_D A [(xo, .inr (2, [.int (nI k), .ref ra, .ref rb, .int (nI rs), .ref sm, .ref hh, .ref ps, .ref pb]))] := hD.sub [0] (by decide) rfl
      exact vx_throwS hx hb hl9 (own := RX3) (cls := "java/lang/IndexOutOfBoundsException") (text := "there is no such place") (names := ["java/lang/RuntimeException", "java/lang/Exception"]) (A := A) hown (by decide +kernel) (by decide +kernel) (hts (.classLink RX3 122 "java/lang/IndexOutOfBoundsException") (by decide +kernel)) (hts (.initialized "java/lang/IndexOutOfBoundsException") (by decide +kernel)) hM.2.1.2.2.2.2.1 hat (by decide +kernel) hM.1.2.2.1 hM.1.2.2.2 hS (hl.1.trans hml.symm) dX3_requirePlace_12 dX3_requirePlace_15 dX3_requirePlace_16 dX3_requirePlace_18 dX3_requirePlace_21 (fun x h => (htab x h).elim) (Nat.le_of_ble_eq_true rfl) (Nat.le_of_ble_eq_true rfl) (Nat.le_of_ble_eq_true rfl) (Nat.le_of_ble_eq_true rfl) hlocks (fun t hal hz hk => ⟨(), trivial, ⟨rfl, kept_P hP9 hk, hD9⟩, kept_F hS hz hk⟩) hS.2.2 (Nat.le_of_ble_eq_true rfl) (Nat.le_of_ble_eq_true rfl)

abbrev q_X3_requireResult_bad (dC : Nat → ClassId) (dI : Nat → Nat → Nat) (xo ra rb sm hh ps pb k rs : Nat) (i : Int32) (A : Nat → Prop) : Array Value → State → Outcome → State → Prop := va_Qv (fun (u : Unit) => False) (fun u t => va_P (dC, dI) vwCl [(xo, .inr (2, [.int (nI k), .ref ra, .ref rb, .int (nI rs), .ref sm, .ref hh, .ref ps, .ref pb]))] t.heap ∧ va_D A [(xo, .inr (2, [.int (nI k), .ref ra, .ref rb, .int (nI rs), .ref sm, .ref hh, .ref ps, .ref pb]))]) A
abbrev x_X3_requireResult_bad (dC : Nat → ClassId) (dI : Nat → Nat → Nat) (xo ra rb sm hh ps pb k rs : Nat) (i : Int32) (A : Nat → Prop) : String → State → State → Prop := vx_X (fun _ : Unit => True) (fun E _ t => (E = "java/lang/IndexOutOfBoundsException") ∧ va_P (dC, dI) vwCl [(xo, .inr (2, [.int (nI k), .ref ra, .ref rb, .int (nI rs), .ref sm, .ref hh, .ref ps, .ref pb]))] t.heap ∧ va_D A [(xo, .inr (2, [.int (nI k), .ref ra, .ref rb, .int (nI rs), .ref sm, .ref hh, .ref ps, .ref pb]))]) A
set_option maxHeartbeats 4000000 in
set_option maxRecDepth 100000 in
theorem c_X3_requireResult_bad (l : Launch) (dC : Nat → ClassId) (dI : Nat → Nat → Nat) (xo ra rb sm hh ps pb k rs : Nat) (i : Int32) (sz : Nat) (hl9 : l.stackTraces = false) (tP : Nat) (sa : Nat → Nat) (hbad : i < 0 ∨ nI rs ≤ i) : vx_Met l yX3_requireResult wsX3_requireResult ({ frames := 6, cells := 1, slots := 6, locals := 82 }) (va_Pc [.ref xo, .int i] (fun U => U.heap.size = sz ∧ va_P (dC, dI) vwCl [(xo, .inr (2, [.int (nI k), .ref ra, .ref rb, .int (nI rs), .ref sm, .ref hh, .ref ps, .ref pb]))] U.heap ∧ va_K (dC, dI) vwCl [] U ∧ va_D (fun _ => True) [(xo, .inr (2, [.int (nI k), .ref ra, .ref rb, .int (nI rs), .ref sm, .ref hh, .ref ps, .ref pb]))] ∧ amb tP sa (va_A [(xo, .inr (2, [.int (nI k), .ref ra, .ref rb, .int (nI rs), .ref sm, .ref hh, .ref ps, .ref pb]))] sz) U U.heap)) (q_X3_requireResult_bad dC dI xo ra rb sm hh ps pb k rs i (va_A [(xo, .inr (2, [.int (nI k), .ref ra, .ref rb, .int (nI rs), .ref sm, .ref hh, .ref ps, .ref pb]))] sz)) (x_X3_requireResult_bad dC dI xo ra rb sm hh ps pb k rs i (va_A [(xo, .inr (2, [.int (nI k), .ref ra, .ref rb, .int (nI rs), .ref sm, .ref hh, .ref ps, .ref pb]))] sz)) 1 6 (va_A [(xo, .inr (2, [.int (nI k), .ref ra, .ref rb, .int (nI rs), .ref sm, .ref hh, .ref ps, .ref pb]))] sz) := by
  refine vx_ofW (cc := cX3_requireResult) (maxL := 2) (ret := none) (by decide) rfl ?_
  intro p e s m args below meth c s₁ B hml htab hv
  obtain ⟨rfl, hsz, hP, hK, hD0, hM⟩ := hv
  have hx := B.exec
  have hb := B.bytes
  have hr := B.returns
  have hts := atoms_spec (ws := wsX3_requireResult) B.pre
  have hown : s.vm.findClass RX3 = some m.cls := findClass_of_methodNamed B.named
  have hlocks := B.notSynchronized
  subst hsz
  have hD := hD0.self (sz := s.heap.size)
  generalize hAe : va_A [(xo, .inr (2, [.int (nI k), .ref ra, .ref rb, .int (nI rs), .ref sm, .ref hh, .ref ps, .ref pb]))] s.heap.size = A at hD hM ⊢
  have hA : ∀ q : Nat, s.heap.size ≤ q → A q := fun q h => by rw [← hAe]; exact Or.inr h
  have hS : va_S A s.heap s.heap [] := va_S.rf
  have hP : va_P (dC, dI) vwCl [(xo, .inr (2, [.int (nI k), .ref ra, .ref rb, .int (nI rs), .ref sm, .ref hh, .ref ps, .ref pb]))] s.heap := hP
  have hl := lv_entry (([.ref xo, .int i] : List Value)) (n := 2) (Nat.le_of_ble_eq_true rfl)
  rw [lg_entry_eq]
  generalize (lg_sl (([.ref xo, .int i] : List Value)) ++ List.replicate (2 - (lg_sl (([.ref xo, .int i] : List Value))).length) Slot.unset).toArray = ls at hl ⊢
  have hl : lv_has ls 2 [(0, .ref xo), (1, .int i)] := hl
  obtain ⟨H, hHe⟩ : ∃ H : Heap, H = s.heap := ⟨_, rfl⟩
  rw [← hHe] at hP
  have hS : va_S A s.heap H [] := by rw [hHe]; exact hS
  obtain ⟨locs, hlo⟩ : ∃ L : List Loc, L = [] := ⟨_, rfl⟩
  rw [← hlo] at hS ⊢
  rw [← hHe]
  refine lv_iload_n hx hb dX3_requireResult_0 rfl (lv_at hl 1 rfl) ?_
  refine lv_if_lt (tgt := 12) hx hb dX3_requireResult_1 (by decide) (fun c_1 => ?_) (fun c_1 => ?_)
  · have hat : ∀ w ∈ vx_atS RX3 126 "java/lang/IndexOutOfBoundsException" ["java/lang/RuntimeException", "java/lang/Exception"], w.before _ s = true := vx_hat (fun w hw => hts w (List.mem_cons_of_mem _ (List.mem_append_right _ hw))) (fun w hw => List.mem_append_right _ (List.mem_append_left _ hw)) (fun w hw => by have h9 := List.all_eq_true.mp ngL_ok w hw; simp only [Bool.and_eq_true] at h9; exact va_tabs h9.1 rfl (hM.2.2.1 w hw))
    have hP9 : va_P (dC, dI) vwCl [(xo, .inr (2, [.int (nI k), .ref ra, .ref rb, .int (nI rs), .ref sm, .ref hh, .ref ps, .ref pb]))] H := hP.sub [0] rfl
    have hD9 : va_D A [(xo, .inr (2, [.int (nI k), .ref ra, .ref rb, .int (nI rs), .ref sm, .ref hh, .ref ps, .ref pb]))] := hD.sub [0] (by decide) rfl
    exact vx_throwS hx hb hl9 (own := RX3) (cls := "java/lang/IndexOutOfBoundsException") (text := "there is no such result") (names := ["java/lang/RuntimeException", "java/lang/Exception"]) (A := A) hown (by decide +kernel) (by decide +kernel) (hts (.classLink RX3 122 "java/lang/IndexOutOfBoundsException") (by decide +kernel)) (hts (.initialized "java/lang/IndexOutOfBoundsException") (by decide +kernel)) hM.2.1.2.2.2.2.2.1 hat (by decide +kernel) hM.1.2.2.1 hM.1.2.2.2 hS (hl.1.trans hml.symm) dX3_requireResult_12 dX3_requireResult_15 dX3_requireResult_16 dX3_requireResult_18 dX3_requireResult_21 (fun x h => (htab x h).elim) (Nat.le_of_ble_eq_true rfl) (Nat.le_of_ble_eq_true rfl) (Nat.le_of_ble_eq_true rfl) (Nat.le_of_ble_eq_true rfl) hlocks (fun t hal hz hk => ⟨(), trivial, ⟨rfl, kept_P hP9 hk, hD9⟩, kept_F hS hz hk⟩) hS.2.2 (Nat.le_of_ble_eq_true rfl) (Nat.le_of_ble_eq_true rfl)
  · refine lv_iload_n hx hb dX3_requireResult_4 rfl (lv_at hl 1 rfl) ?_
    refine lv_aload_n hx hb dX3_requireResult_5 rfl (lv_at hl 0 rfl) ?_
    refine va_get (D := (dC, dI)) (ci := 2) (v := .int (nI rs)) (C := RX3) (T := TX3) (N := 8) hx hb hts (by decide +kernel) hown hK hP 0 rfl rfl 3 (by decide) (hts (.fieldLink RX3 20 "ThreePrimes" "results" "I") (by decide +kernel)) (fun _ h9 => h9) rfl dX3_requireResult_6 ?_
    refine lv_icmp_lt (tgt := 22) hx hb dX3_requireResult_9 (by decide) (fun c_2 => ?_) (fun c_2 => ?_)
    · exact absurd c_2 (Int32.not_lt.mpr (hbad.resolve_left c_1))
    · have hat : ∀ w ∈ vx_atS RX3 126 "java/lang/IndexOutOfBoundsException" ["java/lang/RuntimeException", "java/lang/Exception"], w.before _ s = true := vx_hat (fun w hw => hts w (List.mem_cons_of_mem _ (List.mem_append_right _ hw))) (fun w hw => List.mem_append_right _ (List.mem_append_left _ hw)) (fun w hw => by have h9 := List.all_eq_true.mp ngL_ok w hw; simp only [Bool.and_eq_true] at h9; exact va_tabs h9.1 rfl (hM.2.2.1 w hw))
      have hP9 : va_P (dC, dI) vwCl [(xo, .inr (2, [.int (nI k), .ref ra, .ref rb, .int (nI rs), .ref sm, .ref hh, .ref ps, .ref pb]))] H := hP.sub [0] rfl
      have hD9 : va_D A [(xo, .inr (2, [.int (nI k), .ref ra, .ref rb, .int (nI rs), .ref sm, .ref hh, .ref ps, .ref pb]))] := hD.sub [0] (by decide) rfl
      exact vx_throwS hx hb hl9 (own := RX3) (cls := "java/lang/IndexOutOfBoundsException") (text := "there is no such result") (names := ["java/lang/RuntimeException", "java/lang/Exception"]) (A := A) hown (by decide +kernel) (by decide +kernel) (hts (.classLink RX3 122 "java/lang/IndexOutOfBoundsException") (by decide +kernel)) (hts (.initialized "java/lang/IndexOutOfBoundsException") (by decide +kernel)) hM.2.1.2.2.2.2.2.1 hat (by decide +kernel) hM.1.2.2.1 hM.1.2.2.2 hS (hl.1.trans hml.symm) dX3_requireResult_12 dX3_requireResult_15 dX3_requireResult_16 dX3_requireResult_18 dX3_requireResult_21 (fun x h => (htab x h).elim) (Nat.le_of_ble_eq_true rfl) (Nat.le_of_ble_eq_true rfl) (Nat.le_of_ble_eq_true rfl) (Nat.le_of_ble_eq_true rfl) hlocks (fun t hal hz hk => ⟨(), trivial, ⟨rfl, kept_P hP9 hk, hD9⟩, kept_F hS hz hk⟩) hS.2.2 (Nat.le_of_ble_eq_true rfl) (Nat.le_of_ble_eq_true rfl)

abbrev q_X3_requirePrime_bad (dC : Nat → ClassId) (dI : Nat → Nat → Nat) (xo ra rb sm hh ps pb k rs : Nat) (i : Int32) (A : Nat → Prop) : Array Value → State → Outcome → State → Prop := va_Qv (fun (u : Unit) => False) (fun u t => va_P (dC, dI) vwCl [(xo, .inr (2, [.int (nI k), .ref ra, .ref rb, .int (nI rs), .ref sm, .ref hh, .ref ps, .ref pb]))] t.heap ∧ va_D A [(xo, .inr (2, [.int (nI k), .ref ra, .ref rb, .int (nI rs), .ref sm, .ref hh, .ref ps, .ref pb]))]) A
abbrev x_X3_requirePrime_bad (dC : Nat → ClassId) (dI : Nat → Nat → Nat) (xo ra rb sm hh ps pb k rs : Nat) (i : Int32) (A : Nat → Prop) : String → State → State → Prop := vx_X (fun _ : Unit => True) (fun E _ t => (E = "java/lang/IllegalArgumentException") ∧ va_P (dC, dI) vwCl [(xo, .inr (2, [.int (nI k), .ref ra, .ref rb, .int (nI rs), .ref sm, .ref hh, .ref ps, .ref pb]))] t.heap ∧ va_D A [(xo, .inr (2, [.int (nI k), .ref ra, .ref rb, .int (nI rs), .ref sm, .ref hh, .ref ps, .ref pb]))]) A
set_option maxHeartbeats 4000000 in
set_option maxRecDepth 100000 in
theorem c_X3_requirePrime_bad (l : Launch) (dC : Nat → ClassId) (dI : Nat → Nat → Nat) (xo ra rb sm hh ps pb k rs : Nat) (i : Int32) (sz : Nat) (hl9 : l.stackTraces = false) (tP : Nat) (sa : Nat → Nat) (hbad : i < 0 ∨ nI 3 ≤ i) : vx_Met l yX3_requirePrime wsX3_requirePrime ({ frames := 6, cells := 1, slots := 6, locals := 82 }) (va_Pc [.ref xo, .int i] (fun U => U.heap.size = sz ∧ va_P (dC, dI) vwCl [(xo, .inr (2, [.int (nI k), .ref ra, .ref rb, .int (nI rs), .ref sm, .ref hh, .ref ps, .ref pb]))] U.heap ∧ va_K (dC, dI) vwCl [] U ∧ va_D (fun _ => True) [(xo, .inr (2, [.int (nI k), .ref ra, .ref rb, .int (nI rs), .ref sm, .ref hh, .ref ps, .ref pb]))] ∧ amb tP sa (va_A [(xo, .inr (2, [.int (nI k), .ref ra, .ref rb, .int (nI rs), .ref sm, .ref hh, .ref ps, .ref pb]))] sz) U U.heap)) (q_X3_requirePrime_bad dC dI xo ra rb sm hh ps pb k rs i (va_A [(xo, .inr (2, [.int (nI k), .ref ra, .ref rb, .int (nI rs), .ref sm, .ref hh, .ref ps, .ref pb]))] sz)) (x_X3_requirePrime_bad dC dI xo ra rb sm hh ps pb k rs i (va_A [(xo, .inr (2, [.int (nI k), .ref ra, .ref rb, .int (nI rs), .ref sm, .ref hh, .ref ps, .ref pb]))] sz)) 1 6 (va_A [(xo, .inr (2, [.int (nI k), .ref ra, .ref rb, .int (nI rs), .ref sm, .ref hh, .ref ps, .ref pb]))] sz) := by
  refine vx_ofW (cc := cX3_requirePrime) (maxL := 2) (ret := none) (by decide) rfl ?_
  intro p e s m args below meth c s₁ B hml htab hv
  obtain ⟨rfl, hsz, hP, hK, hD0, hM⟩ := hv
  have hx := B.exec
  have hb := B.bytes
  have hr := B.returns
  have hts := atoms_spec (ws := wsX3_requirePrime) B.pre
  have hown : s.vm.findClass RX3 = some m.cls := findClass_of_methodNamed B.named
  have hlocks := B.notSynchronized
  subst hsz
  have hD := hD0.self (sz := s.heap.size)
  generalize hAe : va_A [(xo, .inr (2, [.int (nI k), .ref ra, .ref rb, .int (nI rs), .ref sm, .ref hh, .ref ps, .ref pb]))] s.heap.size = A at hD hM ⊢
  have hA : ∀ q : Nat, s.heap.size ≤ q → A q := fun q h => by rw [← hAe]; exact Or.inr h
  have hS : va_S A s.heap s.heap [] := va_S.rf
  have hP : va_P (dC, dI) vwCl [(xo, .inr (2, [.int (nI k), .ref ra, .ref rb, .int (nI rs), .ref sm, .ref hh, .ref ps, .ref pb]))] s.heap := hP
  have hl := lv_entry (([.ref xo, .int i] : List Value)) (n := 2) (Nat.le_of_ble_eq_true rfl)
  rw [lg_entry_eq]
  generalize (lg_sl (([.ref xo, .int i] : List Value)) ++ List.replicate (2 - (lg_sl (([.ref xo, .int i] : List Value))).length) Slot.unset).toArray = ls at hl ⊢
  have hl : lv_has ls 2 [(0, .ref xo), (1, .int i)] := hl
  obtain ⟨H, hHe⟩ : ∃ H : Heap, H = s.heap := ⟨_, rfl⟩
  rw [← hHe] at hP
  have hS : va_S A s.heap H [] := by rw [hHe]; exact hS
  obtain ⟨locs, hlo⟩ : ∃ L : List Loc, L = [] := ⟨_, rfl⟩
  rw [← hlo] at hS ⊢
  rw [← hHe]
  refine lv_iload_n hx hb dX3_requirePrime_0 rfl (lv_at hl 1 rfl) ?_
  refine lv_if_lt (tgt := 12) hx hb dX3_requirePrime_1 (by decide) (fun c_1 => ?_) (fun c_1 => ?_)
  · have hat : ∀ w ∈ vx_atS RX3 49 "java/lang/IllegalArgumentException" ["java/lang/RuntimeException", "java/lang/Exception"], w.before _ s = true := vx_hat (fun w hw => hts w (List.mem_cons_of_mem _ (List.mem_append_right _ hw))) (fun w hw => List.mem_append_left _ hw) (fun w hw => by have h9 := List.all_eq_true.mp ngL_ok w hw; simp only [Bool.and_eq_true] at h9; exact va_tabs h9.1 rfl (hM.2.2.1 w hw))
    have hP9 : va_P (dC, dI) vwCl [(xo, .inr (2, [.int (nI k), .ref ra, .ref rb, .int (nI rs), .ref sm, .ref hh, .ref ps, .ref pb]))] H := hP.sub [0] rfl
    have hD9 : va_D A [(xo, .inr (2, [.int (nI k), .ref ra, .ref rb, .int (nI rs), .ref sm, .ref hh, .ref ps, .ref pb]))] := hD.sub [0] (by decide) rfl
    exact vx_throwS hx hb hl9 (own := RX3) (cls := "java/lang/IllegalArgumentException") (text := "prime is not 0 to 2") (names := ["java/lang/RuntimeException", "java/lang/Exception"]) (A := A) hown (by decide +kernel) (by decide +kernel) (hts (.classLink RX3 45 "java/lang/IllegalArgumentException") (by decide +kernel)) (hts (.initialized "java/lang/IllegalArgumentException") (by decide +kernel)) hM.2.1.2.2.2.2.2.2 hat (by decide +kernel) hM.1.2.2.1 hM.1.2.2.2 hS (hl.1.trans hml.symm) dX3_requirePrime_12 dX3_requirePrime_15 dX3_requirePrime_16 dX3_requirePrime_18 dX3_requirePrime_21 (fun x h => (htab x h).elim) (Nat.le_of_ble_eq_true rfl) (Nat.le_of_ble_eq_true rfl) (Nat.le_of_ble_eq_true rfl) (Nat.le_of_ble_eq_true rfl) hlocks (fun t hal hz hk => ⟨(), trivial, ⟨rfl, kept_P hP9 hk, hD9⟩, kept_F hS hz hk⟩) hS.2.2 (Nat.le_of_ble_eq_true rfl) (Nat.le_of_ble_eq_true rfl)
  · refine lv_iload_n hx hb dX3_requirePrime_4 rfl (lv_at hl 1 rfl) ?_
    refine va_gets hx hb hM.1.1 hS hown (hts (.fieldLink RX3 99 "ThreePrimes" "PRIMES" "[I") (by decide +kernel)) (fun _ h9 => h9) dX3_requirePrime_5 ?_
    refine va_tlen (v := nI 3) hx hb hM.1.2.1 hS rfl dX3_requirePrime_8 ?_
    refine lv_icmp_lt (tgt := 22) hx hb dX3_requirePrime_9 (by decide) (fun c_2 => ?_) (fun c_2 => ?_)
    · exact absurd c_2 (Int32.not_lt.mpr (hbad.resolve_left c_1))
    · have hat : ∀ w ∈ vx_atS RX3 49 "java/lang/IllegalArgumentException" ["java/lang/RuntimeException", "java/lang/Exception"], w.before _ s = true := vx_hat (fun w hw => hts w (List.mem_cons_of_mem _ (List.mem_append_right _ hw))) (fun w hw => List.mem_append_left _ hw) (fun w hw => by have h9 := List.all_eq_true.mp ngL_ok w hw; simp only [Bool.and_eq_true] at h9; exact va_tabs h9.1 rfl (hM.2.2.1 w hw))
      have hP9 : va_P (dC, dI) vwCl [(xo, .inr (2, [.int (nI k), .ref ra, .ref rb, .int (nI rs), .ref sm, .ref hh, .ref ps, .ref pb]))] H := hP.sub [0] rfl
      have hD9 : va_D A [(xo, .inr (2, [.int (nI k), .ref ra, .ref rb, .int (nI rs), .ref sm, .ref hh, .ref ps, .ref pb]))] := hD.sub [0] (by decide) rfl
      exact vx_throwS hx hb hl9 (own := RX3) (cls := "java/lang/IllegalArgumentException") (text := "prime is not 0 to 2") (names := ["java/lang/RuntimeException", "java/lang/Exception"]) (A := A) hown (by decide +kernel) (by decide +kernel) (hts (.classLink RX3 45 "java/lang/IllegalArgumentException") (by decide +kernel)) (hts (.initialized "java/lang/IllegalArgumentException") (by decide +kernel)) hM.2.1.2.2.2.2.2.2 hat (by decide +kernel) hM.1.2.2.1 hM.1.2.2.2 hS (hl.1.trans hml.symm) dX3_requirePrime_12 dX3_requirePrime_15 dX3_requirePrime_16 dX3_requirePrime_18 dX3_requirePrime_21 (fun x h => (htab x h).elim) (Nat.le_of_ble_eq_true rfl) (Nat.le_of_ble_eq_true rfl) (Nat.le_of_ble_eq_true rfl) (Nat.le_of_ble_eq_true rfl) hlocks (fun t hal hz hk => ⟨(), trivial, ⟨rfl, kept_P hP9 hk, hD9⟩, kept_F hS hz hk⟩) hS.2.2 (Nat.le_of_ble_eq_true rfl) (Nat.le_of_ble_eq_true rfl)

abbrev q_X3_size_ok (dC : Nat → ClassId) (dI : Nat → Nat → Nat) (xo ra rb sm hh ps pb k rs : Nat) (cI : ClassId) (fA fB : Nat → Int32) (n : Nat) (A : Nat → Prop) : Array Value → State → Outcome → State → Prop := va_Qv (fun (u : Unit) => True) (fun u t => va_P (dC, dI) vwCl [(xo, .inr (2, [.int (nI n), .ref ra, .ref rb, .int (nI 0), .ref sm, .ref hh, .ref ps, .ref pb])), (ra, .inl (cI, 256, .inl (zrI fA (2 ^ n)))), (rb, .inl (cI, 256, .inl (zrI fB (2 ^ n))))] t.heap ∧ va_D A [(xo, .inr (2, [.int (nI n), .ref ra, .ref rb, .int (nI 0), .ref sm, .ref hh, .ref ps, .ref pb])), (ra, .inl (cI, 256, .inl (zrI fA (2 ^ n)))), (rb, .inl (cI, 256, .inl (zrI fB (2 ^ n))))]) A
set_option maxHeartbeats 4000000 in
set_option maxRecDepth 100000 in
theorem c_X3_size_ok (l : Launch) (dC : Nat → ClassId) (dI : Nat → Nat → Nat) (xo ra rb sm hh ps pb k rs : Nat) (cI : ClassId) (fA fB : Nat → Int32) (n : Nat) (sz : Nat) (zk1 : 1 ≤ n) (zk0 : n ≤ 8) : Met l yX3_size wsX3_size ({ frames := 1, cells := 0, slots := 0, locals := 20 }) (va_Pc [.ref xo, .int (nI n)] (fun U => U.heap.size = sz ∧ va_P (dC, dI) vwCl [(xo, .inr (2, [.int (nI k), .ref ra, .ref rb, .int (nI rs), .ref sm, .ref hh, .ref ps, .ref pb])), (ra, .inl (cI, 256, .inl fA)), (rb, .inl (cI, 256, .inl fB))] U.heap ∧ va_K (dC, dI) vwCl [(cI, .int)] U ∧ va_D (fun _ => True) [(xo, .inr (2, [.int (nI k), .ref ra, .ref rb, .int (nI rs), .ref sm, .ref hh, .ref ps, .ref pb])), (ra, .inl (cI, 256, .inl fA)), (rb, .inl (cI, 256, .inl fB))])) (q_X3_size_ok dC dI xo ra rb sm hh ps pb k rs cI fA fB n (va_A [(xo, .inr (2, [.int (nI k), .ref ra, .ref rb, .int (nI rs), .ref sm, .ref hh, .ref ps, .ref pb])), (ra, .inl (cI, 256, .inl fA)), (rb, .inl (cI, 256, .inl fB))] sz)) 0 0 (va_A [(xo, .inr (2, [.int (nI k), .ref ra, .ref rb, .int (nI rs), .ref sm, .ref hh, .ref ps, .ref pb])), (ra, .inl (cI, 256, .inl fA)), (rb, .inl (cI, 256, .inl fB))] sz) := by
  refine Met.ofW (cc := cX3_size) (maxL := 3) (ret := none) (by decide) rfl ?_
  intro p e s m args below meth c s₁ B hml hv
  obtain ⟨rfl, hsz, hP, hK, hD0⟩ := hv
  have hx := B.exec
  have hb := B.bytes
  have hr := B.returns
  have hts := atoms_spec (ws := wsX3_size) B.pre
  have hown : s.vm.findClass RX3 = some m.cls := findClass_of_methodNamed B.named
  have hlocks := B.notSynchronized
  subst hsz
  have hD := hD0.self (sz := s.heap.size)
  generalize hAe : va_A [(xo, .inr (2, [.int (nI k), .ref ra, .ref rb, .int (nI rs), .ref sm, .ref hh, .ref ps, .ref pb])), (ra, .inl (cI, 256, .inl fA)), (rb, .inl (cI, 256, .inl fB))] s.heap.size = A at hD ⊢
  have hA : ∀ q : Nat, s.heap.size ≤ q → A q := fun q h => by rw [← hAe]; exact Or.inr h
  have hS : va_S A s.heap s.heap [] := va_S.rf
  have hP : va_P (dC, dI) vwCl [(xo, .inr (2, [.int (nI k), .ref ra, .ref rb, .int (nI rs), .ref sm, .ref hh, .ref ps, .ref pb])), (ra, .inl (cI, 256, .inl fA)), (rb, .inl (cI, 256, .inl fB))] s.heap := hP
  have hl := lv_entry (([.ref xo, .int (nI n)] : List Value)) (n := 3) (Nat.le_of_ble_eq_true rfl)
  rw [lg_entry_eq]
  generalize (lg_sl (([.ref xo, .int (nI n)] : List Value)) ++ List.replicate (3 - (lg_sl (([.ref xo, .int (nI n)] : List Value))).length) Slot.unset).toArray = ls at hl ⊢
  have hl : lv_has ls 3 [(0, .ref xo), (1, .int (nI n))] := hl
  obtain ⟨H, hHe⟩ : ∃ H : Heap, H = s.heap := ⟨_, rfl⟩
  rw [← hHe] at hP
  have hS : va_S A s.heap H [] := by rw [hHe]; exact hS
  obtain ⟨locs, hlo⟩ : ∃ L : List Loc, L = [] := ⟨_, rfl⟩
  rw [← hlo] at hS ⊢
  rw [← hHe]
  have hpk := pw8 zk0
  refine lv_iload_n hx hb dX3_size_0 rfl (lv_at hl 1 rfl) ?_
  refine lv_iconst (v := nI 1) hx hb dX3_size_1 (by decide) ?_
  refine lv_icmp_lt (tgt := 11) hx hb dX3_size_2 (by decide) (fun c_1 => ?_) (fun c_1 => ?_)
  · have c_1 : n < 1 := (nI_ltI (a := n) (b := 1) (by omega) (by omega)).mp c_1
    omega
  · have c_1 : ¬ (n < 1) := fun zq9 => c_1 ((nI_ltI (a := n) (b := 1) (by omega) (by omega)).mpr zq9)
    refine lv_iload_n hx hb dX3_size_5 rfl (lv_at hl 1 rfl) ?_
    refine lv_bipush (v := nI 8) hx hb dX3_size_6 (by decide) ?_
    refine lv_icmp_le (tgt := 21) hx hb dX3_size_8 (by decide) (fun c_2 => ?_) (fun c_2 => ?_)
    · have c_2 : n ≤ 8 := (nI_leI (a := n) (b := 8) (by omega) (by omega)).mp c_2
      refine lv_aload_n hx hb dX3_size_21 rfl (lv_at hl 0 rfl) ?_
      refine lv_iload_n hx hb dX3_size_22 rfl (lv_at hl 1 rfl) ?_
      refine va_put (D := (dC, dI)) (ci := 2) (v := .int (nI n)) (ty := .int) (C := RX3) (T := TX3) (N := 8) hx hb hts (by decide +kernel) tyX3 tyX3_ok nmX3 hown hK hP hD hS 0 rfl rfl 0 (by decide) (hts (.fieldLink RX3 9 "ThreePrimes" "levels" "I") (by decide +kernel)) (fun _ h9 => h9) rfl (by decide +kernel) rfl rfl (Nat.le_of_ble_eq_true rfl) dX3_size_23 (fun H locs hP hD hS => ?_)
      have hP : va_P (dC, dI) vwCl [(xo, .inr (2, [.int (nI n), .ref ra, .ref rb, .int (nI rs), .ref sm, .ref hh, .ref ps, .ref pb])), (ra, .inl (cI, 256, .inl fA)), (rb, .inl (cI, 256, .inl fB))] H := hP
      have hD : va_D A [(xo, .inr (2, [.int (nI n), .ref ra, .ref rb, .int (nI rs), .ref sm, .ref hh, .ref ps, .ref pb])), (ra, .inl (cI, 256, .inl fA)), (rb, .inl (cI, 256, .inl fB))] := hD
      refine lv_aload_n hx hb dX3_size_26 rfl (lv_at hl 0 rfl) ?_
      refine lv_iconst (v := nI 0) hx hb dX3_size_27 (by decide) ?_
      refine va_put (D := (dC, dI)) (ci := 2) (v := .int (nI 0)) (ty := .int) (C := RX3) (T := TX3) (N := 8) hx hb hts (by decide +kernel) tyX3 tyX3_ok nmX3 hown hK hP hD hS 0 rfl rfl 3 (by decide) (hts (.fieldLink RX3 20 "ThreePrimes" "results" "I") (by decide +kernel)) (fun _ h9 => h9) rfl (by decide +kernel) rfl rfl (Nat.le_of_ble_eq_true rfl) dX3_size_28 (fun H locs hP hD hS => ?_)
      have hP : va_P (dC, dI) vwCl [(xo, .inr (2, [.int (nI n), .ref ra, .ref rb, .int (nI 0), .ref sm, .ref hh, .ref ps, .ref pb])), (ra, .inl (cI, 256, .inl fA)), (rb, .inl (cI, 256, .inl fB))] H := hP
      have hD : va_D A [(xo, .inr (2, [.int (nI n), .ref ra, .ref rb, .int (nI 0), .ref sm, .ref hh, .ref ps, .ref pb])), (ra, .inl (cI, 256, .inl fA)), (rb, .inl (cI, 256, .inl fB))] := hD
      refine lv_iconst (v := nI 0) hx hb dX3_size_31 (by decide) ?_
      rw [show fA = zrI fA 0 from (zrI_0 _).symm] at hP hD
      have hP : va_P (dC, dI) vwCl [(xo, .inr (2, [.int (nI n), .ref ra, .ref rb, .int (nI 0), .ref sm, .ref hh, .ref ps, .ref pb])), (ra, .inl (cI, 256, .inl (zrI fA 0))), (rb, .inl (cI, 256, .inl fB))] H := hP
      have hD : va_D A [(xo, .inr (2, [.int (nI n), .ref ra, .ref rb, .int (nI 0), .ref sm, .ref hh, .ref ps, .ref pb])), (ra, .inl (cI, 256, .inl (zrI fA 0))), (rb, .inl (cI, 256, .inl fB))] := hD
      rw [show fB = zrI fB 0 from (zrI_0 _).symm] at hP hD
      have hP : va_P (dC, dI) vwCl [(xo, .inr (2, [.int (nI n), .ref ra, .ref rb, .int (nI 0), .ref sm, .ref hh, .ref ps, .ref pb])), (ra, .inl (cI, 256, .inl (zrI fA 0))), (rb, .inl (cI, 256, .inl (zrI fB 0)))] H := hP
      have hD : va_D A [(xo, .inr (2, [.int (nI n), .ref ra, .ref rb, .int (nI 0), .ref sm, .ref hh, .ref ps, .ref pb])), (ra, .inl (cI, 256, .inl (zrI fA 0))), (rb, .inl (cI, 256, .inl (zrI fB 0)))] := hD
      refine lv_istore_n (lv' := [(2, .int (nI 0)), (0, .ref xo), (1, .int (nI n))]) hx hb dX3_size_32 rfl hl (by decide) rfl (fun ls hl => ?_)
      have key_33 : ∀ (fuel : Nat) (t : Nat), (t ≤ 2 ^ n) → (2 ^ n - t < fuel) → ∀ (H : Heap) (locs : List Loc) (ls : Array Slot), va_P (dC, dI) vwCl [(xo, .inr (2, [.int (nI n), .ref ra, .ref rb, .int (nI 0), .ref sm, .ref hh, .ref ps, .ref pb])), (ra, .inl (cI, 256, .inl (zrI fA t))), (rb, .inl (cI, 256, .inl (zrI fB t)))] H → va_D A [(xo, .inr (2, [.int (nI n), .ref ra, .ref rb, .int (nI 0), .ref sm, .ref hh, .ref ps, .ref pb])), (ra, .inl (cI, 256, .inl (zrI fA t))), (rb, .inl (cI, 256, .inl (zrI fB t)))] → va_S A s.heap H locs → lv_has ls 3 [(2, .int (nI t)), (0, .ref xo)] → W p l e (headSpec wsX3_size { frames := 1, cells := 0, slots := 0, locals := 20 }).room s m ([.ref xo, .int (nI n)] : List Value).toArray below meth c H locs 0 0 (MQ below (q_X3_size_ok dC dI xo ra rb sm hh ps pb k rs cI fA fB n  A) ([.ref xo, .int (nI n)] : List Value).toArray s 0 0 A) (F0 m 33 ls []) := by
        intro fuel
        induction fuel with
        | zero => intro t; intros; omega
        | succ fuel ih_33 =>
          intro t ht hfu H locs ls hP hD hS hl
          refine lv_iload_n hx hb dX3_size_33 rfl (lv_at hl 0 rfl) ?_
          refine lv_aload_n hx hb dX3_size_34 rfl (lv_at hl 1 rfl) ?_
          have hPc := hP.sub (ws' := [(xo, .inr (2, [.int (nI n), .ref ra, .ref rb, .int (nI 0), .ref sm, .ref hh, .ref ps, .ref pb]))]) [0] rfl
          have hDc := hD.sub (ws' := [(xo, .inr (2, [.int (nI n), .ref ra, .ref rb, .int (nI 0), .ref sm, .ref hh, .ref ps, .ref pb]))]) [0] (by decide) rfl
          have hKc := hK.sub (tys' := []) [] rfl
          have hFc := va_free (wc := [(xo, .inr (2, [.int (nI n), .ref ra, .ref rb, .int (nI 0), .ref sm, .ref hh, .ref ps, .ref pb]))]) hD hS hA [0] rfl
          refine va_calli (va_runV (As := []) (rest := [.int (nI t)]) ⟨hx, hb, hml, hown, hts⟩ (c_X3_places l dC dI xo ra rb sm hh ps pb n 0 H.size (by omega) (by omega)) (cwV 0 hts gX3_size_X3_places rfl rfl rfl (by decide +kernel) ⟨Nat.le_of_ble_eq_true rfl, Nat.le_of_ble_eq_true rfl⟩) ⟨fun a U g mk q => by obtain ⟨q0, q1, qP, qK, qD⟩ := q; exact ⟨q0, q1, qP, va_K.moved (u := U) (U := U.calling g mk a) (Vm.Alike.refl U.vm) qK, qD⟩, va_recv hKc hPc (ci := 2) (q0 := 0) rfl rfl, fun U hU hW => ⟨rfl, by rw [hU], by rw [hU]; exact hPc, va_K.moved hW.alike hKc, hDc.weaken (fun _ _ _ _ => trivial)⟩⟩ rfl rfl hl.1 rfl (lv_room (Nat.le_of_ble_eq_true rfl)) dX3_size_35 ⟨Nat.le_of_ble_eq_true rfl, Nat.le_of_ble_eq_true rfl⟩) hS (fun q _ h => hFc q h) hFc (fun r9 u9 t9 H1 locs ht hvm hw hB hz1 hk1 hS => ?_)
          obtain ⟨hP1, hD1⟩ := hB
          rw [ht] at hP1
          try dsimp only at hw
          obtain ⟨hP, hD⟩ := va_join (wr := [(ra, .inl (cI, 256, .inl (zrI fA t))), (rb, .inl (cI, 256, .inl (zrI fB t)))]) (w1 := [(xo, .inr (2, [.int (nI n), .ref ra, .ref rb, .int (nI 0), .ref sm, .ref hh, .ref ps, .ref pb]))]) hP hD [0] [1, 2] rfl rfl (by decide) (by decide) hk1 hFc hP1 hD1
          generalize H1 = H at hP hS ⊢
          have hP : va_P (dC, dI) vwCl [(ra, .inl (cI, 256, .inl (zrI fA t))), (rb, .inl (cI, 256, .inl (zrI fB t))), (xo, .inr (2, [.int (nI n), .ref ra, .ref rb, .int (nI 0), .ref sm, .ref hh, .ref ps, .ref pb]))] H := hP
          have hD : va_D A [(ra, .inl (cI, 256, .inl (zrI fA t))), (rb, .inl (cI, 256, .inl (zrI fB t))), (xo, .inr (2, [.int (nI n), .ref ra, .ref rb, .int (nI 0), .ref sm, .ref hh, .ref ps, .ref pb]))] := hD
          clear hPc hDc hKc hFc hP1 hD1 hk1 hz1 hvm ht
          subst hw
          refine lv_icmp_ge (tgt := 61) hx hb dX3_size_38 (by decide) (fun c_3 => ?_) (fun c_3 => ?_)
          · have c_3 : 2 ^ n ≤ t := (nI_leI (a := 2 ^ n) (b := t) (by omega) (by omega)).mp c_3
            rw [show zrI fA t = zrI fA (2 ^ n) from by rw [show t = 2 ^ n by omega]] at hP hD
            have hP : va_P (dC, dI) vwCl [(ra, .inl (cI, 256, .inl (zrI fA (2 ^ n)))), (rb, .inl (cI, 256, .inl (zrI fB t))), (xo, .inr (2, [.int (nI n), .ref ra, .ref rb, .int (nI 0), .ref sm, .ref hh, .ref ps, .ref pb]))] H := hP
            have hD : va_D A [(ra, .inl (cI, 256, .inl (zrI fA (2 ^ n)))), (rb, .inl (cI, 256, .inl (zrI fB t))), (xo, .inr (2, [.int (nI n), .ref ra, .ref rb, .int (nI 0), .ref sm, .ref hh, .ref ps, .ref pb]))] := hD
            rw [show zrI fB t = zrI fB (2 ^ n) from by rw [show t = 2 ^ n by omega]] at hP hD
            have hP : va_P (dC, dI) vwCl [(ra, .inl (cI, 256, .inl (zrI fA (2 ^ n)))), (rb, .inl (cI, 256, .inl (zrI fB (2 ^ n)))), (xo, .inr (2, [.int (nI n), .ref ra, .ref rb, .int (nI 0), .ref sm, .ref hh, .ref ps, .ref pb]))] H := hP
            have hD : va_D A [(ra, .inl (cI, 256, .inl (zrI fA (2 ^ n)))), (rb, .inl (cI, 256, .inl (zrI fB (2 ^ n)))), (xo, .inr (2, [.int (nI n), .ref ra, .ref rb, .int (nI 0), .ref sm, .ref hh, .ref ps, .ref pb]))] := hD
            have hP9 : va_P (dC, dI) vwCl [(xo, .inr (2, [.int (nI n), .ref ra, .ref rb, .int (nI 0), .ref sm, .ref hh, .ref ps, .ref pb])), (ra, .inl (cI, 256, .inl (zrI fA (2 ^ n)))), (rb, .inl (cI, 256, .inl (zrI fB (2 ^ n))))] H := hP.sub [2, 0, 1] rfl
            have hD9 : va_D A [(xo, .inr (2, [.int (nI n), .ref ra, .ref rb, .int (nI 0), .ref sm, .ref hh, .ref ps, .ref pb])), (ra, .inl (cI, 256, .inl (zrI fA (2 ^ n)))), (rb, .inl (cI, 256, .inl (zrI fB (2 ^ n))))] := hD.sub [2, 0, 1] (by decide) rfl
            exact W.vret hx hb hr (fun t ht hW => ⟨⟨(), rfl, trivial, by rw [ht]; exact hP9, hD9⟩, hS.F ht⟩) hS.2.2 dX3_size_61
          · have c_3 : ¬ (2 ^ n ≤ t) := fun zq9 => c_3 ((nI_leI (a := 2 ^ n) (b := t) (by omega) (by omega)).mpr zq9)
            refine lv_aload_n hx hb dX3_size_41 rfl (lv_at hl 1 rfl) ?_
            refine va_get (D := (dC, dI)) (ci := 2) (v := .ref ra) (C := RX3) (T := TX3) (N := 8) hx hb hts (by decide +kernel) hown hK hP 2 rfl rfl 1 (by decide) (hts (.fieldLink RX3 13 "ThreePrimes" "rowA" "[I") (by decide +kernel)) (fun _ h9 => h9) rfl dX3_size_42 ?_
            refine lv_iload_n hx hb dX3_size_45 rfl (lv_at hl 0 rfl) ?_
            refine lv_iconst (v := nI 0) hx hb dX3_size_46 (by decide) ?_
            refine va_iast hx hb hK hP hD hS 0 0 rfl rfl (vp_in_nI (by omega) (by omega)) dX3_size_47 (fun H locs hP hD hS => ?_)
            rw [nI_clamp (show t < 2 ^ 31 by omega)] at hP hD
            have hP : va_P (dC, dI) vwCl [(ra, .inl (cI, 256, .inl (upd (zrI fA t) t (nI 0)))), (rb, .inl (cI, 256, .inl (zrI fB t))), (xo, .inr (2, [.int (nI n), .ref ra, .ref rb, .int (nI 0), .ref sm, .ref hh, .ref ps, .ref pb]))] H := hP
            have hD : va_D A [(ra, .inl (cI, 256, .inl (upd (zrI fA t) t (nI 0)))), (rb, .inl (cI, 256, .inl (zrI fB t))), (xo, .inr (2, [.int (nI n), .ref ra, .ref rb, .int (nI 0), .ref sm, .ref hh, .ref ps, .ref pb]))] := hD
            rw [show upd (zrI fA t) t (nI 0) = zrI fA (t + 1) from zrI_s] at hP hD
            have hP : va_P (dC, dI) vwCl [(ra, .inl (cI, 256, .inl (zrI fA (t + 1)))), (rb, .inl (cI, 256, .inl (zrI fB t))), (xo, .inr (2, [.int (nI n), .ref ra, .ref rb, .int (nI 0), .ref sm, .ref hh, .ref ps, .ref pb]))] H := hP
            have hD : va_D A [(ra, .inl (cI, 256, .inl (zrI fA (t + 1)))), (rb, .inl (cI, 256, .inl (zrI fB t))), (xo, .inr (2, [.int (nI n), .ref ra, .ref rb, .int (nI 0), .ref sm, .ref hh, .ref ps, .ref pb]))] := hD
            refine lv_aload_n hx hb dX3_size_48 rfl (lv_at hl 1 rfl) ?_
            refine va_get (D := (dC, dI)) (ci := 2) (v := .ref rb) (C := RX3) (T := TX3) (N := 8) hx hb hts (by decide +kernel) hown hK hP 2 rfl rfl 2 (by decide) (hts (.fieldLink RX3 17 "ThreePrimes" "rowB" "[I") (by decide +kernel)) (fun _ h9 => h9) rfl dX3_size_49 ?_
            refine lv_iload_n hx hb dX3_size_52 rfl (lv_at hl 0 rfl) ?_
            refine lv_iconst (v := nI 0) hx hb dX3_size_53 (by decide) ?_
            refine va_iast hx hb hK hP hD hS 1 0 rfl rfl (vp_in_nI (by omega) (by omega)) dX3_size_54 (fun H locs hP hD hS => ?_)
            rw [nI_clamp (show t < 2 ^ 31 by omega)] at hP hD
            have hP : va_P (dC, dI) vwCl [(ra, .inl (cI, 256, .inl (zrI fA (t + 1)))), (rb, .inl (cI, 256, .inl (upd (zrI fB t) t (nI 0)))), (xo, .inr (2, [.int (nI n), .ref ra, .ref rb, .int (nI 0), .ref sm, .ref hh, .ref ps, .ref pb]))] H := hP
            have hD : va_D A [(ra, .inl (cI, 256, .inl (zrI fA (t + 1)))), (rb, .inl (cI, 256, .inl (upd (zrI fB t) t (nI 0)))), (xo, .inr (2, [.int (nI n), .ref ra, .ref rb, .int (nI 0), .ref sm, .ref hh, .ref ps, .ref pb]))] := hD
            rw [show upd (zrI fB t) t (nI 0) = zrI fB (t + 1) from zrI_s] at hP hD
            have hP : va_P (dC, dI) vwCl [(ra, .inl (cI, 256, .inl (zrI fA (t + 1)))), (rb, .inl (cI, 256, .inl (zrI fB (t + 1)))), (xo, .inr (2, [.int (nI n), .ref ra, .ref rb, .int (nI 0), .ref sm, .ref hh, .ref ps, .ref pb]))] H := hP
            have hD : va_D A [(ra, .inl (cI, 256, .inl (zrI fA (t + 1)))), (rb, .inl (cI, 256, .inl (zrI fB (t + 1)))), (xo, .inr (2, [.int (nI n), .ref ra, .ref rb, .int (nI 0), .ref sm, .ref hh, .ref ps, .ref pb]))] := hD
            refine lv_iinc (v := nI (t + 1)) (lv' := [(2, .int (nI (t + 1))), (0, .ref xo)]) hx hb dX3_size_55 hl (k := 0) rfl (nI_add t 1) (by decide) rfl (fun ls hl => ?_)
            refine lv_goto (tgt := 33) hx hb dX3_size_58 (by decide) ?_
            exact ih_33  (t + 1) (by omega) (by omega) _ _ _ (hP.sub [2, 0, 1] rfl) (hD.sub [2, 0, 1] (by decide) rfl) hS (lv_sub hl [0, 1] rfl)
      exact key_33 (2 ^ n + 1) 0 (by omega) (by omega) _ _ _ (hP.sub [0, 1, 2] rfl) (hD.sub [0, 1, 2] (by decide) rfl) hS (lv_sub hl [0, 1] rfl)
    · have c_2 : ¬ (n ≤ 8) := fun zq9 => c_2 ((nI_leI (a := n) (b := 8) (by omega) (by omega)).mpr zq9)
      omega

abbrev q_X3_size_bad (dC : Nat → ClassId) (dI : Nat → Nat → Nat) (xo ra rb sm hh ps pb k rs : Nat) (i : Int32) (A : Nat → Prop) : Array Value → State → Outcome → State → Prop := va_Qv (fun (u : Unit) => False) (fun u t => va_P (dC, dI) vwCl [(xo, .inr (2, [.int (nI k), .ref ra, .ref rb, .int (nI rs), .ref sm, .ref hh, .ref ps, .ref pb]))] t.heap ∧ va_D A [(xo, .inr (2, [.int (nI k), .ref ra, .ref rb, .int (nI rs), .ref sm, .ref hh, .ref ps, .ref pb]))]) A
abbrev x_X3_size_bad (dC : Nat → ClassId) (dI : Nat → Nat → Nat) (xo ra rb sm hh ps pb k rs : Nat) (i : Int32) (A : Nat → Prop) : String → State → State → Prop := vx_X (fun _ : Unit => True) (fun E _ t => (E = "java/lang/IllegalArgumentException") ∧ va_P (dC, dI) vwCl [(xo, .inr (2, [.int (nI k), .ref ra, .ref rb, .int (nI rs), .ref sm, .ref hh, .ref ps, .ref pb]))] t.heap ∧ va_D A [(xo, .inr (2, [.int (nI k), .ref ra, .ref rb, .int (nI rs), .ref sm, .ref hh, .ref ps, .ref pb]))]) A
set_option maxHeartbeats 4000000 in
set_option maxRecDepth 100000 in
theorem c_X3_size_bad (l : Launch) (dC : Nat → ClassId) (dI : Nat → Nat → Nat) (xo ra rb sm hh ps pb k rs : Nat) (i : Int32) (sz : Nat) (hl9 : l.stackTraces = false) (tP : Nat) (sa : Nat → Nat) (hbad : i < nI 1 ∨ nI 8 < i) : vx_Met l yX3_size wsX3_size ({ frames := 6, cells := 1, slots := 6, locals := 82 }) (va_Pc [.ref xo, .int i] (fun U => U.heap.size = sz ∧ va_P (dC, dI) vwCl [(xo, .inr (2, [.int (nI k), .ref ra, .ref rb, .int (nI rs), .ref sm, .ref hh, .ref ps, .ref pb]))] U.heap ∧ va_K (dC, dI) vwCl [] U ∧ va_D (fun _ => True) [(xo, .inr (2, [.int (nI k), .ref ra, .ref rb, .int (nI rs), .ref sm, .ref hh, .ref ps, .ref pb]))] ∧ amb tP sa (va_A [(xo, .inr (2, [.int (nI k), .ref ra, .ref rb, .int (nI rs), .ref sm, .ref hh, .ref ps, .ref pb]))] sz) U U.heap)) (q_X3_size_bad dC dI xo ra rb sm hh ps pb k rs i (va_A [(xo, .inr (2, [.int (nI k), .ref ra, .ref rb, .int (nI rs), .ref sm, .ref hh, .ref ps, .ref pb]))] sz)) (x_X3_size_bad dC dI xo ra rb sm hh ps pb k rs i (va_A [(xo, .inr (2, [.int (nI k), .ref ra, .ref rb, .int (nI rs), .ref sm, .ref hh, .ref ps, .ref pb]))] sz)) 1 6 (va_A [(xo, .inr (2, [.int (nI k), .ref ra, .ref rb, .int (nI rs), .ref sm, .ref hh, .ref ps, .ref pb]))] sz) := by
  refine vx_ofW (cc := cX3_size) (maxL := 3) (ret := none) (by decide) rfl ?_
  intro p e s m args below meth c s₁ B hml htab hv
  obtain ⟨rfl, hsz, hP, hK, hD0, hM⟩ := hv
  have hx := B.exec
  have hb := B.bytes
  have hr := B.returns
  have hts := atoms_spec (ws := wsX3_size) B.pre
  have hown : s.vm.findClass RX3 = some m.cls := findClass_of_methodNamed B.named
  have hlocks := B.notSynchronized
  subst hsz
  have hD := hD0.self (sz := s.heap.size)
  generalize hAe : va_A [(xo, .inr (2, [.int (nI k), .ref ra, .ref rb, .int (nI rs), .ref sm, .ref hh, .ref ps, .ref pb]))] s.heap.size = A at hD hM ⊢
  have hA : ∀ q : Nat, s.heap.size ≤ q → A q := fun q h => by rw [← hAe]; exact Or.inr h
  have hS : va_S A s.heap s.heap [] := va_S.rf
  have hP : va_P (dC, dI) vwCl [(xo, .inr (2, [.int (nI k), .ref ra, .ref rb, .int (nI rs), .ref sm, .ref hh, .ref ps, .ref pb]))] s.heap := hP
  have hl := lv_entry (([.ref xo, .int i] : List Value)) (n := 3) (Nat.le_of_ble_eq_true rfl)
  rw [lg_entry_eq]
  generalize (lg_sl (([.ref xo, .int i] : List Value)) ++ List.replicate (3 - (lg_sl (([.ref xo, .int i] : List Value))).length) Slot.unset).toArray = ls at hl ⊢
  have hl : lv_has ls 3 [(0, .ref xo), (1, .int i)] := hl
  obtain ⟨H, hHe⟩ : ∃ H : Heap, H = s.heap := ⟨_, rfl⟩
  rw [← hHe] at hP
  have hS : va_S A s.heap H [] := by rw [hHe]; exact hS
  obtain ⟨locs, hlo⟩ : ∃ L : List Loc, L = [] := ⟨_, rfl⟩
  rw [← hlo] at hS ⊢
  rw [← hHe]
  refine lv_iload_n hx hb dX3_size_0 rfl (lv_at hl 1 rfl) ?_
  refine lv_iconst (v := nI 1) hx hb dX3_size_1 (by decide) ?_
  refine lv_icmp_lt (tgt := 11) hx hb dX3_size_2 (by decide) (fun c_1 => ?_) (fun c_1 => ?_)
  · have hat : ∀ w ∈ vx_atS RX3 49 "java/lang/IllegalArgumentException" ["java/lang/RuntimeException", "java/lang/Exception"], w.before _ s = true := vx_hat (fun w hw => hts w (List.mem_cons_of_mem _ (List.mem_append_right _ hw))) (fun w hw => List.mem_append_left _ hw) (fun w hw => by have h9 := List.all_eq_true.mp ngL_ok w hw; simp only [Bool.and_eq_true] at h9; exact va_tabs h9.1 rfl (hM.2.2.1 w hw))
    have hP9 : va_P (dC, dI) vwCl [(xo, .inr (2, [.int (nI k), .ref ra, .ref rb, .int (nI rs), .ref sm, .ref hh, .ref ps, .ref pb]))] H := hP.sub [0] rfl
    have hD9 : va_D A [(xo, .inr (2, [.int (nI k), .ref ra, .ref rb, .int (nI rs), .ref sm, .ref hh, .ref ps, .ref pb]))] := hD.sub [0] (by decide) rfl
    exact vx_throwS hx hb hl9 (own := RX3) (cls := "java/lang/IllegalArgumentException") (text := "k is not 1 to 8") (names := ["java/lang/RuntimeException", "java/lang/Exception"]) (A := A) hown (by decide +kernel) (by decide +kernel) (hts (.classLink RX3 45 "java/lang/IllegalArgumentException") (by decide +kernel)) (hts (.initialized "java/lang/IllegalArgumentException") (by decide +kernel)) hM.2.1.1 hat (by decide +kernel) hM.1.2.2.1 hM.1.2.2.2 hS (hl.1.trans hml.symm) dX3_size_11 dX3_size_14 dX3_size_15 dX3_size_17 dX3_size_20 (fun x h => (htab x h).elim) (Nat.le_of_ble_eq_true rfl) (Nat.le_of_ble_eq_true rfl) (Nat.le_of_ble_eq_true rfl) (Nat.le_of_ble_eq_true rfl) hlocks (fun t hal hz hk => ⟨(), trivial, ⟨rfl, kept_P hP9 hk, hD9⟩, kept_F hS hz hk⟩) hS.2.2 (Nat.le_of_ble_eq_true rfl) (Nat.le_of_ble_eq_true rfl)
  · refine lv_iload_n hx hb dX3_size_5 rfl (lv_at hl 1 rfl) ?_
    refine lv_bipush (v := nI 8) hx hb dX3_size_6 (by decide) ?_
    refine lv_icmp_le (tgt := 21) hx hb dX3_size_8 (by decide) (fun c_2 => ?_) (fun c_2 => ?_)
    · exact absurd c_2 (Int32.not_le.mpr (hbad.resolve_left c_1))
    · have hat : ∀ w ∈ vx_atS RX3 49 "java/lang/IllegalArgumentException" ["java/lang/RuntimeException", "java/lang/Exception"], w.before _ s = true := vx_hat (fun w hw => hts w (List.mem_cons_of_mem _ (List.mem_append_right _ hw))) (fun w hw => List.mem_append_left _ hw) (fun w hw => by have h9 := List.all_eq_true.mp ngL_ok w hw; simp only [Bool.and_eq_true] at h9; exact va_tabs h9.1 rfl (hM.2.2.1 w hw))
      have hP9 : va_P (dC, dI) vwCl [(xo, .inr (2, [.int (nI k), .ref ra, .ref rb, .int (nI rs), .ref sm, .ref hh, .ref ps, .ref pb]))] H := hP.sub [0] rfl
      have hD9 : va_D A [(xo, .inr (2, [.int (nI k), .ref ra, .ref rb, .int (nI rs), .ref sm, .ref hh, .ref ps, .ref pb]))] := hD.sub [0] (by decide) rfl
      exact vx_throwS hx hb hl9 (own := RX3) (cls := "java/lang/IllegalArgumentException") (text := "k is not 1 to 8") (names := ["java/lang/RuntimeException", "java/lang/Exception"]) (A := A) hown (by decide +kernel) (by decide +kernel) (hts (.classLink RX3 45 "java/lang/IllegalArgumentException") (by decide +kernel)) (hts (.initialized "java/lang/IllegalArgumentException") (by decide +kernel)) hM.2.1.1 hat (by decide +kernel) hM.1.2.2.1 hM.1.2.2.2 hS (hl.1.trans hml.symm) dX3_size_11 dX3_size_14 dX3_size_15 dX3_size_17 dX3_size_20 (fun x h => (htab x h).elim) (Nat.le_of_ble_eq_true rfl) (Nat.le_of_ble_eq_true rfl) (Nat.le_of_ble_eq_true rfl) (Nat.le_of_ble_eq_true rfl) hlocks (fun t hal hz hk => ⟨(), trivial, ⟨rfl, kept_P hP9 hk, hD9⟩, kept_F hS hz hk⟩) hS.2.2 (Nat.le_of_ble_eq_true rfl) (Nat.le_of_ble_eq_true rfl)

abbrev q_X3_setA_ok (dC : Nat → ClassId) (dI : Nat → Nat → Nat) (xo ra rb sm hh ps pb k rs : Nat) (cI : ClassId) (fA : Nat → Int32) (j : Nat) (v : Int32) (A : Nat → Prop) : Array Value → State → Outcome → State → Prop := va_Qi (fun (r : Int32) (u : Unit) => r = fA j) (fun u t => va_P (dC, dI) vwCl [(xo, .inr (2, [.int (nI k), .ref ra, .ref rb, .int (nI rs), .ref sm, .ref hh, .ref ps, .ref pb])), (ra, .inl (cI, 256, .inl (upd fA j v)))] t.heap ∧ va_D A [(xo, .inr (2, [.int (nI k), .ref ra, .ref rb, .int (nI rs), .ref sm, .ref hh, .ref ps, .ref pb])), (ra, .inl (cI, 256, .inl (upd fA j v)))]) A
set_option maxHeartbeats 4000000 in
set_option maxRecDepth 100000 in
theorem c_X3_setA_ok (l : Launch) (dC : Nat → ClassId) (dI : Nat → Nat → Nat) (xo ra rb sm hh ps pb k rs : Nat) (cI : ClassId) (fA : Nat → Int32) (j : Nat) (v : Int32) (sz : Nat) (zk1 : 1 ≤ k) (zk : k ≤ 8) (zj : j < 2 ^ k) : Met l yX3_setA wsX3_setA ({ frames := 2, cells := 0, slots := 0, locals := 41 }) (va_Pc [.ref xo, .int (nI j), .int v] (fun U => U.heap.size = sz ∧ va_P (dC, dI) vwCl [(xo, .inr (2, [.int (nI k), .ref ra, .ref rb, .int (nI rs), .ref sm, .ref hh, .ref ps, .ref pb])), (ra, .inl (cI, 256, .inl fA))] U.heap ∧ va_K (dC, dI) vwCl [(cI, .int)] U ∧ va_D (fun _ => True) [(xo, .inr (2, [.int (nI k), .ref ra, .ref rb, .int (nI rs), .ref sm, .ref hh, .ref ps, .ref pb])), (ra, .inl (cI, 256, .inl fA))])) (q_X3_setA_ok dC dI xo ra rb sm hh ps pb k rs cI fA j v (va_A [(xo, .inr (2, [.int (nI k), .ref ra, .ref rb, .int (nI rs), .ref sm, .ref hh, .ref ps, .ref pb])), (ra, .inl (cI, 256, .inl fA))] sz)) 0 0 (va_A [(xo, .inr (2, [.int (nI k), .ref ra, .ref rb, .int (nI rs), .ref sm, .ref hh, .ref ps, .ref pb])), (ra, .inl (cI, 256, .inl fA))] sz) := by
  refine Met.ofW (cc := cX3_setA) (maxL := 4) (ret := (some .int)) (by decide) rfl ?_
  intro p e s m args below meth c s₁ B hml hv
  obtain ⟨rfl, hsz, hP, hK, hD0⟩ := hv
  have hx := B.exec
  have hb := B.bytes
  have hr := B.returns
  have hts := atoms_spec (ws := wsX3_setA) B.pre
  have hown : s.vm.findClass RX3 = some m.cls := findClass_of_methodNamed B.named
  have hlocks := B.notSynchronized
  subst hsz
  have hD := hD0.self (sz := s.heap.size)
  generalize hAe : va_A [(xo, .inr (2, [.int (nI k), .ref ra, .ref rb, .int (nI rs), .ref sm, .ref hh, .ref ps, .ref pb])), (ra, .inl (cI, 256, .inl fA))] s.heap.size = A at hD ⊢
  have hA : ∀ q : Nat, s.heap.size ≤ q → A q := fun q h => by rw [← hAe]; exact Or.inr h
  have hS : va_S A s.heap s.heap [] := va_S.rf
  have hP : va_P (dC, dI) vwCl [(xo, .inr (2, [.int (nI k), .ref ra, .ref rb, .int (nI rs), .ref sm, .ref hh, .ref ps, .ref pb])), (ra, .inl (cI, 256, .inl fA))] s.heap := hP
  have hl := lv_entry (([.ref xo, .int (nI j), .int v] : List Value)) (n := 4) (Nat.le_of_ble_eq_true rfl)
  rw [lg_entry_eq]
  generalize (lg_sl (([.ref xo, .int (nI j), .int v] : List Value)) ++ List.replicate (4 - (lg_sl (([.ref xo, .int (nI j), .int v] : List Value))).length) Slot.unset).toArray = ls at hl ⊢
  have hl : lv_has ls 4 [(0, .ref xo), (1, .int (nI j)), (2, .int v)] := hl
  obtain ⟨H, hHe⟩ : ∃ H : Heap, H = s.heap := ⟨_, rfl⟩
  rw [← hHe] at hP
  have hS : va_S A s.heap H [] := by rw [hHe]; exact hS
  obtain ⟨locs, hlo⟩ : ∃ L : List Loc, L = [] := ⟨_, rfl⟩
  rw [← hlo] at hS ⊢
  rw [← hHe]
  have hpk := pw8 zk
  refine lv_aload_n hx hb dX3_setA_0 rfl (lv_at hl 0 rfl) ?_
  refine lv_iload_n hx hb dX3_setA_1 rfl (lv_at hl 1 rfl) ?_
  have hPc := hP.sub (ws' := [(xo, .inr (2, [.int (nI k), .ref ra, .ref rb, .int (nI rs), .ref sm, .ref hh, .ref ps, .ref pb]))]) [0] rfl
  have hDc := hD.sub (ws' := [(xo, .inr (2, [.int (nI k), .ref ra, .ref rb, .int (nI rs), .ref sm, .ref hh, .ref ps, .ref pb]))]) [0] (by decide) rfl
  have hKc := hK.sub (tys' := []) [] rfl
  have hFc := va_free (wc := [(xo, .inr (2, [.int (nI k), .ref ra, .ref rb, .int (nI rs), .ref sm, .ref hh, .ref ps, .ref pb]))]) hD hS hA [0] rfl
  refine va_callv (va_runV (As := [.int (nI j)]) (rest := []) ⟨hx, hb, hml, hown, hts⟩ (c_X3_requirePlace_ok l dC dI xo ra rb sm hh ps pb k rs j H.size (by omega) (by omega) (by omega)) (cwV 1 hts gX3_setA_X3_requirePlace rfl rfl rfl (by decide +kernel) ⟨Nat.le_of_ble_eq_true rfl, Nat.le_of_ble_eq_true rfl⟩) ⟨fun a U g mk q => by obtain ⟨q0, q1, qP, qK, qD⟩ := q; exact ⟨q0, q1, qP, va_K.moved (u := U) (U := U.calling g mk a) (Vm.Alike.refl U.vm) qK, qD⟩, va_recv hKc hPc (ci := 2) (q0 := 0) rfl rfl, fun U hU hW => ⟨rfl, by rw [hU], by rw [hU]; exact hPc, va_K.moved hW.alike hKc, hDc.weaken (fun _ _ _ _ => trivial)⟩⟩ rfl rfl hl.1 rfl (lv_room (Nat.le_of_ble_eq_true rfl)) dX3_setA_2 ⟨Nat.le_of_ble_eq_true rfl, Nat.le_of_ble_eq_true rfl⟩) hS (fun q _ h => hFc q h) hFc (fun u9 t9 H1 locs ht hvm hw hB hz1 hk1 hS => ?_)
  obtain ⟨hP1, hD1⟩ := hB
  rw [ht] at hP1
  try dsimp only at hw
  obtain ⟨hP, hD⟩ := va_join (wr := [(ra, .inl (cI, 256, .inl fA))]) (w1 := [(xo, .inr (2, [.int (nI k), .ref ra, .ref rb, .int (nI rs), .ref sm, .ref hh, .ref ps, .ref pb]))]) hP hD [0] [1] rfl rfl (by decide) (by decide) hk1 hFc hP1 hD1
  generalize H1 = H at hP hS ⊢
  have hP : va_P (dC, dI) vwCl [(ra, .inl (cI, 256, .inl fA)), (xo, .inr (2, [.int (nI k), .ref ra, .ref rb, .int (nI rs), .ref sm, .ref hh, .ref ps, .ref pb]))] H := hP
  have hD : va_D A [(ra, .inl (cI, 256, .inl fA)), (xo, .inr (2, [.int (nI k), .ref ra, .ref rb, .int (nI rs), .ref sm, .ref hh, .ref ps, .ref pb]))] := hD
  clear hPc hDc hKc hFc hP1 hD1 hk1 hz1 hvm ht
  clear hw
  refine lv_aload_n hx hb dX3_setA_5 rfl (lv_at hl 0 rfl) ?_
  refine va_get (D := (dC, dI)) (ci := 2) (v := .ref ra) (C := RX3) (T := TX3) (N := 8) hx hb hts (by decide +kernel) hown hK hP 1 rfl rfl 1 (by decide) (hts (.fieldLink RX3 13 "ThreePrimes" "rowA" "[I") (by decide +kernel)) (fun _ h9 => h9) rfl dX3_setA_6 ?_
  refine lv_iload_n hx hb dX3_setA_9 rfl (lv_at hl 1 rfl) ?_
  refine va_iald hx hb hK hP 0 0 rfl rfl (vp_in_nI (by omega) (by omega)) dX3_setA_10 ?_
  refine W.eq (g2 := F0 m _ ls [.int (fA j)]) (by rw [nI_clamp (by omega)]) ?_
  refine lv_istore_n (lv' := [(3, .int (fA j)), (0, .ref xo), (1, .int (nI j)), (2, .int v)]) hx hb dX3_setA_11 rfl hl (by decide) rfl (fun ls hl => ?_)
  refine lv_aload_n hx hb dX3_setA_12 rfl (lv_at hl 1 rfl) ?_
  refine va_get (D := (dC, dI)) (ci := 2) (v := .ref ra) (C := RX3) (T := TX3) (N := 8) hx hb hts (by decide +kernel) hown hK hP 1 rfl rfl 1 (by decide) (hts (.fieldLink RX3 13 "ThreePrimes" "rowA" "[I") (by decide +kernel)) (fun _ h9 => h9) rfl dX3_setA_13 ?_
  refine lv_iload_n hx hb dX3_setA_16 rfl (lv_at hl 2 rfl) ?_
  refine lv_iload_n hx hb dX3_setA_17 rfl (lv_at hl 3 rfl) ?_
  refine va_iast hx hb hK hP hD hS 0 0 rfl rfl (vp_in_nI (by omega) (by omega)) dX3_setA_18 (fun H locs hP hD hS => ?_)
  rw [nI_clamp (show j < 2 ^ 31 by omega)] at hP hD
  have hP : va_P (dC, dI) vwCl [(ra, .inl (cI, 256, .inl (upd fA j v))), (xo, .inr (2, [.int (nI k), .ref ra, .ref rb, .int (nI rs), .ref sm, .ref hh, .ref ps, .ref pb]))] H := hP
  have hD : va_D A [(ra, .inl (cI, 256, .inl (upd fA j v))), (xo, .inr (2, [.int (nI k), .ref ra, .ref rb, .int (nI rs), .ref sm, .ref hh, .ref ps, .ref pb]))] := hD
  refine lv_iload_n hx hb dX3_setA_19 rfl (lv_at hl 0 rfl) ?_
  have hP9 : va_P (dC, dI) vwCl [(xo, .inr (2, [.int (nI k), .ref ra, .ref rb, .int (nI rs), .ref sm, .ref hh, .ref ps, .ref pb])), (ra, .inl (cI, 256, .inl (upd fA j v)))] H := hP.sub [1, 0] rfl
  have hD9 : va_D A [(xo, .inr (2, [.int (nI k), .ref ra, .ref rb, .int (nI rs), .ref sm, .ref hh, .ref ps, .ref pb])), (ra, .inl (cI, 256, .inl (upd fA j v)))] := hD.sub [1, 0] (by decide) rfl
  exact W.iret (v := fA j) hx hb hr (fun t ht hW => ⟨⟨fA j, (), rfl, rfl, by rw [ht]; exact hP9, hD9⟩, hS.F ht⟩) hS.2.2 dX3_setA_20

abbrev q_X3_setA_bad (dC : Nat → ClassId) (dI : Nat → Nat → Nat) (xo ra rb sm hh ps pb k rs : Nat) (i v : Int32) (A : Nat → Prop) : Array Value → State → Outcome → State → Prop := va_Qi (fun (r : Int32) (u : Unit) => False) (fun u t => va_P (dC, dI) vwCl [(xo, .inr (2, [.int (nI k), .ref ra, .ref rb, .int (nI rs), .ref sm, .ref hh, .ref ps, .ref pb]))] t.heap ∧ va_D A [(xo, .inr (2, [.int (nI k), .ref ra, .ref rb, .int (nI rs), .ref sm, .ref hh, .ref ps, .ref pb]))]) A
abbrev x_X3_setA_bad (dC : Nat → ClassId) (dI : Nat → Nat → Nat) (xo ra rb sm hh ps pb k rs : Nat) (i v : Int32) (A : Nat → Prop) : String → State → State → Prop := vx_X (fun _ : Unit => True) (fun E _ t => (E = "java/lang/IndexOutOfBoundsException") ∧ va_P (dC, dI) vwCl [(xo, .inr (2, [.int (nI k), .ref ra, .ref rb, .int (nI rs), .ref sm, .ref hh, .ref ps, .ref pb]))] t.heap ∧ va_D A [(xo, .inr (2, [.int (nI k), .ref ra, .ref rb, .int (nI rs), .ref sm, .ref hh, .ref ps, .ref pb]))]) A
set_option maxHeartbeats 4000000 in
set_option maxRecDepth 100000 in
theorem c_X3_setA_bad (l : Launch) (dC : Nat → ClassId) (dI : Nat → Nat → Nat) (xo ra rb sm hh ps pb k rs : Nat) (i v : Int32) (sz : Nat) (hl9 : l.stackTraces = false) (tP : Nat) (sa : Nat → Nat) (zk1 : 1 ≤ k) (zk : k ≤ 8) (hbad : i < 0 ∨ nI (2 ^ k) ≤ i) : vx_Met l yX3_setA wsX3_setA ({ frames := 7, cells := 1, slots := 6, locals := 103 }) (va_Pc [.ref xo, .int i, .int v] (fun U => U.heap.size = sz ∧ va_P (dC, dI) vwCl [(xo, .inr (2, [.int (nI k), .ref ra, .ref rb, .int (nI rs), .ref sm, .ref hh, .ref ps, .ref pb]))] U.heap ∧ va_K (dC, dI) vwCl [] U ∧ va_D (fun _ => True) [(xo, .inr (2, [.int (nI k), .ref ra, .ref rb, .int (nI rs), .ref sm, .ref hh, .ref ps, .ref pb]))] ∧ amb tP sa (va_A [(xo, .inr (2, [.int (nI k), .ref ra, .ref rb, .int (nI rs), .ref sm, .ref hh, .ref ps, .ref pb]))] sz) U U.heap)) (q_X3_setA_bad dC dI xo ra rb sm hh ps pb k rs i v (va_A [(xo, .inr (2, [.int (nI k), .ref ra, .ref rb, .int (nI rs), .ref sm, .ref hh, .ref ps, .ref pb]))] sz)) (x_X3_setA_bad dC dI xo ra rb sm hh ps pb k rs i v (va_A [(xo, .inr (2, [.int (nI k), .ref ra, .ref rb, .int (nI rs), .ref sm, .ref hh, .ref ps, .ref pb]))] sz)) 1 6 (va_A [(xo, .inr (2, [.int (nI k), .ref ra, .ref rb, .int (nI rs), .ref sm, .ref hh, .ref ps, .ref pb]))] sz) := by
  refine vx_ofW (cc := cX3_setA) (maxL := 4) (ret := (some .int)) (by decide) rfl ?_
  intro p e s m args below meth c s₁ B hml htab hv
  obtain ⟨rfl, hsz, hP, hK, hD0, hM⟩ := hv
  have hx := B.exec
  have hb := B.bytes
  have hr := B.returns
  have hts := atoms_spec (ws := wsX3_setA) B.pre
  have hown : s.vm.findClass RX3 = some m.cls := findClass_of_methodNamed B.named
  have hlocks := B.notSynchronized
  subst hsz
  have hD := hD0.self (sz := s.heap.size)
  generalize hAe : va_A [(xo, .inr (2, [.int (nI k), .ref ra, .ref rb, .int (nI rs), .ref sm, .ref hh, .ref ps, .ref pb]))] s.heap.size = A at hD hM ⊢
  have hA : ∀ q : Nat, s.heap.size ≤ q → A q := fun q h => by rw [← hAe]; exact Or.inr h
  have hS : va_S A s.heap s.heap [] := va_S.rf
  have hP : va_P (dC, dI) vwCl [(xo, .inr (2, [.int (nI k), .ref ra, .ref rb, .int (nI rs), .ref sm, .ref hh, .ref ps, .ref pb]))] s.heap := hP
  have hl := lv_entry (([.ref xo, .int i, .int v] : List Value)) (n := 4) (Nat.le_of_ble_eq_true rfl)
  rw [lg_entry_eq]
  generalize (lg_sl (([.ref xo, .int i, .int v] : List Value)) ++ List.replicate (4 - (lg_sl (([.ref xo, .int i, .int v] : List Value))).length) Slot.unset).toArray = ls at hl ⊢
  have hl : lv_has ls 4 [(0, .ref xo), (1, .int i), (2, .int v)] := hl
  obtain ⟨H, hHe⟩ : ∃ H : Heap, H = s.heap := ⟨_, rfl⟩
  rw [← hHe] at hP
  have hS : va_S A s.heap H [] := by rw [hHe]; exact hS
  obtain ⟨locs, hlo⟩ : ∃ L : List Loc, L = [] := ⟨_, rfl⟩
  rw [← hlo] at hS ⊢
  rw [← hHe]
  have hpk := pw8 zk
  refine lv_aload_n hx hb dX3_setA_0 rfl (lv_at hl 0 rfl) ?_
  refine lv_iload_n hx hb dX3_setA_1 rfl (lv_at hl 1 rfl) ?_
  have hPc := hP.sub (ws' := [(xo, .inr (2, [.int (nI k), .ref ra, .ref rb, .int (nI rs), .ref sm, .ref hh, .ref ps, .ref pb]))]) [0] rfl
  have hDc := hD.sub (ws' := [(xo, .inr (2, [.int (nI k), .ref ra, .ref rb, .int (nI rs), .ref sm, .ref hh, .ref ps, .ref pb]))]) [0] (by decide) rfl
  have hKc := hK.sub (tys' := []) [] rfl
  have hFc := va_free (wc := [(xo, .inr (2, [.int (nI k), .ref ra, .ref rb, .int (nI rs), .ref sm, .ref hh, .ref ps, .ref pb]))]) hD hS hA [0] rfl
  refine vx_callv (vx_runV (As := [.int i]) (rest := []) ⟨hx, hb, hml, hown, hts⟩ (c_X3_requirePlace_bad l dC dI xo ra rb sm hh ps pb k rs i H.size hl9 tP sa (by omega) (by omega) hbad) (cwV 1 hts gX3_setA_X3_requirePlace rfl rfl rfl (by decide +kernel) ⟨Nat.le_of_ble_eq_true rfl, Nat.le_of_ble_eq_true rfl⟩) ⟨fun a U g mk q => by obtain ⟨q0, q1, qP, qK, qD, qM⟩ := q; exact ⟨q0, q1, qP, va_K.moved (u := U) (U := U.calling g mk a) (Vm.Alike.refl U.vm) qK, qD, amb_same (U := U) (U' := U.calling g mk a) rfl rfl qM⟩, va_recv hKc hPc (ci := 2) (q0 := 0) rfl rfl, fun U hU hW => ⟨rfl, by rw [hU], by rw [hU]; exact hPc, va_K.moved hW.alike hKc, hDc.weaken (fun _ _ _ _ => trivial), amb_pass hM hS hFc hW hU⟩⟩ rfl rfl hl.1 rfl (lv_room (Nat.le_of_ble_eq_true rfl)) dX3_setA_2 ⟨Nat.le_of_ble_eq_true rfl, Nat.le_of_ble_eq_true rfl⟩) hS (fun q _ h => hFc q h) hFc (fun q _ h => hFc q h) (fun E9 ce9 q9 u9 t9 H1 locs ht hvm hw hB hz1 hk1 hS hce hcv hcl => ?_) (fun u9 t9 H1 locs ht hvm hw hB hz1 hk1 hS => ?_)
  · obtain ⟨hxp, hP1, hD1⟩ := hB
    rw [ht] at hP1
    obtain ⟨hP, hD⟩ := va_join (wr := []) (w1 := [(xo, .inr (2, [.int (nI k), .ref ra, .ref rb, .int (nI rs), .ref sm, .ref hh, .ref ps, .ref pb]))]) hP hD [0] [] rfl rfl (by decide) (by decide) hk1 hFc hP1 hD1
    have hP9 : va_P (dC, dI) vwCl [(xo, .inr (2, [.int (nI k), .ref ra, .ref rb, .int (nI rs), .ref sm, .ref hh, .ref ps, .ref pb]))] H1 := hP.sub [0] rfl
    have hD9 : va_D A [(xo, .inr (2, [.int (nI k), .ref ra, .ref rb, .int (nI rs), .ref sm, .ref hh, .ref ps, .ref pb]))] := hD.sub [0] (by decide) rfl
    exact vx_out (E := E9) (fun x h => (htab x h).elim) hlocks hce hcv hcl (fun t ht9 hal => ⟨(), trivial, ⟨hxp, by rw [ht9]; exact hP9, hD9⟩, hS.F ht9⟩) hS.2.2 (Nat.le_of_ble_eq_true rfl) (Nat.le_of_ble_eq_true rfl)
  exact hw.elim

abbrev q_X3_a_ok (dC : Nat → ClassId) (dI : Nat → Nat → Nat) (xo ra rb sm hh ps pb k rs : Nat) (cI : ClassId) (fA : Nat → Int32) (j : Nat) (A : Nat → Prop) : Array Value → State → Outcome → State → Prop := va_Qi (fun (r : Int32) (u : Unit) => r = fA j) (fun u t => va_P (dC, dI) vwCl [(xo, .inr (2, [.int (nI k), .ref ra, .ref rb, .int (nI rs), .ref sm, .ref hh, .ref ps, .ref pb])), (ra, .inl (cI, 256, .inl fA))] t.heap ∧ va_D A [(xo, .inr (2, [.int (nI k), .ref ra, .ref rb, .int (nI rs), .ref sm, .ref hh, .ref ps, .ref pb])), (ra, .inl (cI, 256, .inl fA))]) A
set_option maxHeartbeats 4000000 in
set_option maxRecDepth 100000 in
theorem c_X3_a_ok (l : Launch) (dC : Nat → ClassId) (dI : Nat → Nat → Nat) (xo ra rb sm hh ps pb k rs : Nat) (cI : ClassId) (fA : Nat → Int32) (j : Nat) (sz : Nat) (zk1 : 1 ≤ k) (zk : k ≤ 8) (zj : j < 2 ^ k) : Met l yX3_a wsX3_a ({ frames := 2, cells := 0, slots := 0, locals := 41 }) (va_Pc [.ref xo, .int (nI j)] (fun U => U.heap.size = sz ∧ va_P (dC, dI) vwCl [(xo, .inr (2, [.int (nI k), .ref ra, .ref rb, .int (nI rs), .ref sm, .ref hh, .ref ps, .ref pb])), (ra, .inl (cI, 256, .inl fA))] U.heap ∧ va_K (dC, dI) vwCl [(cI, .int)] U ∧ va_D (fun _ => True) [(xo, .inr (2, [.int (nI k), .ref ra, .ref rb, .int (nI rs), .ref sm, .ref hh, .ref ps, .ref pb])), (ra, .inl (cI, 256, .inl fA))])) (q_X3_a_ok dC dI xo ra rb sm hh ps pb k rs cI fA j (va_A [(xo, .inr (2, [.int (nI k), .ref ra, .ref rb, .int (nI rs), .ref sm, .ref hh, .ref ps, .ref pb])), (ra, .inl (cI, 256, .inl fA))] sz)) 0 0 (va_A [(xo, .inr (2, [.int (nI k), .ref ra, .ref rb, .int (nI rs), .ref sm, .ref hh, .ref ps, .ref pb])), (ra, .inl (cI, 256, .inl fA))] sz) := by
  refine Met.ofW (cc := cX3_a) (maxL := 2) (ret := (some .int)) (by decide) rfl ?_
  intro p e s m args below meth c s₁ B hml hv
  obtain ⟨rfl, hsz, hP, hK, hD0⟩ := hv
  have hx := B.exec
  have hb := B.bytes
  have hr := B.returns
  have hts := atoms_spec (ws := wsX3_a) B.pre
  have hown : s.vm.findClass RX3 = some m.cls := findClass_of_methodNamed B.named
  have hlocks := B.notSynchronized
  subst hsz
  have hD := hD0.self (sz := s.heap.size)
  generalize hAe : va_A [(xo, .inr (2, [.int (nI k), .ref ra, .ref rb, .int (nI rs), .ref sm, .ref hh, .ref ps, .ref pb])), (ra, .inl (cI, 256, .inl fA))] s.heap.size = A at hD ⊢
  have hA : ∀ q : Nat, s.heap.size ≤ q → A q := fun q h => by rw [← hAe]; exact Or.inr h
  have hS : va_S A s.heap s.heap [] := va_S.rf
  have hP : va_P (dC, dI) vwCl [(xo, .inr (2, [.int (nI k), .ref ra, .ref rb, .int (nI rs), .ref sm, .ref hh, .ref ps, .ref pb])), (ra, .inl (cI, 256, .inl fA))] s.heap := hP
  have hl := lv_entry (([.ref xo, .int (nI j)] : List Value)) (n := 2) (Nat.le_of_ble_eq_true rfl)
  rw [lg_entry_eq]
  generalize (lg_sl (([.ref xo, .int (nI j)] : List Value)) ++ List.replicate (2 - (lg_sl (([.ref xo, .int (nI j)] : List Value))).length) Slot.unset).toArray = ls at hl ⊢
  have hl : lv_has ls 2 [(0, .ref xo), (1, .int (nI j))] := hl
  obtain ⟨H, hHe⟩ : ∃ H : Heap, H = s.heap := ⟨_, rfl⟩
  rw [← hHe] at hP
  have hS : va_S A s.heap H [] := by rw [hHe]; exact hS
  obtain ⟨locs, hlo⟩ : ∃ L : List Loc, L = [] := ⟨_, rfl⟩
  rw [← hlo] at hS ⊢
  rw [← hHe]
  have hpk := pw8 zk
  refine lv_aload_n hx hb dX3_a_0 rfl (lv_at hl 0 rfl) ?_
  refine lv_iload_n hx hb dX3_a_1 rfl (lv_at hl 1 rfl) ?_
  have hPc := hP.sub (ws' := [(xo, .inr (2, [.int (nI k), .ref ra, .ref rb, .int (nI rs), .ref sm, .ref hh, .ref ps, .ref pb]))]) [0] rfl
  have hDc := hD.sub (ws' := [(xo, .inr (2, [.int (nI k), .ref ra, .ref rb, .int (nI rs), .ref sm, .ref hh, .ref ps, .ref pb]))]) [0] (by decide) rfl
  have hKc := hK.sub (tys' := []) [] rfl
  have hFc := va_free (wc := [(xo, .inr (2, [.int (nI k), .ref ra, .ref rb, .int (nI rs), .ref sm, .ref hh, .ref ps, .ref pb]))]) hD hS hA [0] rfl
  refine va_callv (va_runV (As := [.int (nI j)]) (rest := []) ⟨hx, hb, hml, hown, hts⟩ (c_X3_requirePlace_ok l dC dI xo ra rb sm hh ps pb k rs j H.size (by omega) (by omega) (by omega)) (cwV 1 hts gX3_a_X3_requirePlace rfl rfl rfl (by decide +kernel) ⟨Nat.le_of_ble_eq_true rfl, Nat.le_of_ble_eq_true rfl⟩) ⟨fun a U g mk q => by obtain ⟨q0, q1, qP, qK, qD⟩ := q; exact ⟨q0, q1, qP, va_K.moved (u := U) (U := U.calling g mk a) (Vm.Alike.refl U.vm) qK, qD⟩, va_recv hKc hPc (ci := 2) (q0 := 0) rfl rfl, fun U hU hW => ⟨rfl, by rw [hU], by rw [hU]; exact hPc, va_K.moved hW.alike hKc, hDc.weaken (fun _ _ _ _ => trivial)⟩⟩ rfl rfl hl.1 rfl (lv_room (Nat.le_of_ble_eq_true rfl)) dX3_a_2 ⟨Nat.le_of_ble_eq_true rfl, Nat.le_of_ble_eq_true rfl⟩) hS (fun q _ h => hFc q h) hFc (fun u9 t9 H1 locs ht hvm hw hB hz1 hk1 hS => ?_)
  obtain ⟨hP1, hD1⟩ := hB
  rw [ht] at hP1
  try dsimp only at hw
  obtain ⟨hP, hD⟩ := va_join (wr := [(ra, .inl (cI, 256, .inl fA))]) (w1 := [(xo, .inr (2, [.int (nI k), .ref ra, .ref rb, .int (nI rs), .ref sm, .ref hh, .ref ps, .ref pb]))]) hP hD [0] [1] rfl rfl (by decide) (by decide) hk1 hFc hP1 hD1
  generalize H1 = H at hP hS ⊢
  have hP : va_P (dC, dI) vwCl [(ra, .inl (cI, 256, .inl fA)), (xo, .inr (2, [.int (nI k), .ref ra, .ref rb, .int (nI rs), .ref sm, .ref hh, .ref ps, .ref pb]))] H := hP
  have hD : va_D A [(ra, .inl (cI, 256, .inl fA)), (xo, .inr (2, [.int (nI k), .ref ra, .ref rb, .int (nI rs), .ref sm, .ref hh, .ref ps, .ref pb]))] := hD
  clear hPc hDc hKc hFc hP1 hD1 hk1 hz1 hvm ht
  clear hw
  refine lv_aload_n hx hb dX3_a_5 rfl (lv_at hl 0 rfl) ?_
  refine va_get (D := (dC, dI)) (ci := 2) (v := .ref ra) (C := RX3) (T := TX3) (N := 8) hx hb hts (by decide +kernel) hown hK hP 1 rfl rfl 1 (by decide) (hts (.fieldLink RX3 13 "ThreePrimes" "rowA" "[I") (by decide +kernel)) (fun _ h9 => h9) rfl dX3_a_6 ?_
  refine lv_iload_n hx hb dX3_a_9 rfl (lv_at hl 1 rfl) ?_
  refine va_iald hx hb hK hP 0 0 rfl rfl (vp_in_nI (by omega) (by omega)) dX3_a_10 ?_
  refine W.eq (g2 := F0 m _ ls [.int (fA j)]) (by rw [nI_clamp (by omega)]) ?_
  have hP9 : va_P (dC, dI) vwCl [(xo, .inr (2, [.int (nI k), .ref ra, .ref rb, .int (nI rs), .ref sm, .ref hh, .ref ps, .ref pb])), (ra, .inl (cI, 256, .inl fA))] H := hP.sub [1, 0] rfl
  have hD9 : va_D A [(xo, .inr (2, [.int (nI k), .ref ra, .ref rb, .int (nI rs), .ref sm, .ref hh, .ref ps, .ref pb])), (ra, .inl (cI, 256, .inl fA))] := hD.sub [1, 0] (by decide) rfl
  exact W.iret (v := fA j) hx hb hr (fun t ht hW => ⟨⟨fA j, (), rfl, rfl, by rw [ht]; exact hP9, hD9⟩, hS.F ht⟩) hS.2.2 dX3_a_11

abbrev q_X3_a_bad (dC : Nat → ClassId) (dI : Nat → Nat → Nat) (xo ra rb sm hh ps pb k rs : Nat) (i : Int32) (A : Nat → Prop) : Array Value → State → Outcome → State → Prop := va_Qi (fun (r : Int32) (u : Unit) => False) (fun u t => va_P (dC, dI) vwCl [(xo, .inr (2, [.int (nI k), .ref ra, .ref rb, .int (nI rs), .ref sm, .ref hh, .ref ps, .ref pb]))] t.heap ∧ va_D A [(xo, .inr (2, [.int (nI k), .ref ra, .ref rb, .int (nI rs), .ref sm, .ref hh, .ref ps, .ref pb]))]) A
abbrev x_X3_a_bad (dC : Nat → ClassId) (dI : Nat → Nat → Nat) (xo ra rb sm hh ps pb k rs : Nat) (i : Int32) (A : Nat → Prop) : String → State → State → Prop := vx_X (fun _ : Unit => True) (fun E _ t => (E = "java/lang/IndexOutOfBoundsException") ∧ va_P (dC, dI) vwCl [(xo, .inr (2, [.int (nI k), .ref ra, .ref rb, .int (nI rs), .ref sm, .ref hh, .ref ps, .ref pb]))] t.heap ∧ va_D A [(xo, .inr (2, [.int (nI k), .ref ra, .ref rb, .int (nI rs), .ref sm, .ref hh, .ref ps, .ref pb]))]) A
set_option maxHeartbeats 4000000 in
set_option maxRecDepth 100000 in
theorem c_X3_a_bad (l : Launch) (dC : Nat → ClassId) (dI : Nat → Nat → Nat) (xo ra rb sm hh ps pb k rs : Nat) (i : Int32) (sz : Nat) (hl9 : l.stackTraces = false) (tP : Nat) (sa : Nat → Nat) (zk1 : 1 ≤ k) (zk : k ≤ 8) (hbad : i < 0 ∨ nI (2 ^ k) ≤ i) : vx_Met l yX3_a wsX3_a ({ frames := 7, cells := 1, slots := 6, locals := 103 }) (va_Pc [.ref xo, .int i] (fun U => U.heap.size = sz ∧ va_P (dC, dI) vwCl [(xo, .inr (2, [.int (nI k), .ref ra, .ref rb, .int (nI rs), .ref sm, .ref hh, .ref ps, .ref pb]))] U.heap ∧ va_K (dC, dI) vwCl [] U ∧ va_D (fun _ => True) [(xo, .inr (2, [.int (nI k), .ref ra, .ref rb, .int (nI rs), .ref sm, .ref hh, .ref ps, .ref pb]))] ∧ amb tP sa (va_A [(xo, .inr (2, [.int (nI k), .ref ra, .ref rb, .int (nI rs), .ref sm, .ref hh, .ref ps, .ref pb]))] sz) U U.heap)) (q_X3_a_bad dC dI xo ra rb sm hh ps pb k rs i (va_A [(xo, .inr (2, [.int (nI k), .ref ra, .ref rb, .int (nI rs), .ref sm, .ref hh, .ref ps, .ref pb]))] sz)) (x_X3_a_bad dC dI xo ra rb sm hh ps pb k rs i (va_A [(xo, .inr (2, [.int (nI k), .ref ra, .ref rb, .int (nI rs), .ref sm, .ref hh, .ref ps, .ref pb]))] sz)) 1 6 (va_A [(xo, .inr (2, [.int (nI k), .ref ra, .ref rb, .int (nI rs), .ref sm, .ref hh, .ref ps, .ref pb]))] sz) := by
  refine vx_ofW (cc := cX3_a) (maxL := 2) (ret := (some .int)) (by decide) rfl ?_
  intro p e s m args below meth c s₁ B hml htab hv
  obtain ⟨rfl, hsz, hP, hK, hD0, hM⟩ := hv
  have hx := B.exec
  have hb := B.bytes
  have hr := B.returns
  have hts := atoms_spec (ws := wsX3_a) B.pre
  have hown : s.vm.findClass RX3 = some m.cls := findClass_of_methodNamed B.named
  have hlocks := B.notSynchronized
  subst hsz
  have hD := hD0.self (sz := s.heap.size)
  generalize hAe : va_A [(xo, .inr (2, [.int (nI k), .ref ra, .ref rb, .int (nI rs), .ref sm, .ref hh, .ref ps, .ref pb]))] s.heap.size = A at hD hM ⊢
  have hA : ∀ q : Nat, s.heap.size ≤ q → A q := fun q h => by rw [← hAe]; exact Or.inr h
  have hS : va_S A s.heap s.heap [] := va_S.rf
  have hP : va_P (dC, dI) vwCl [(xo, .inr (2, [.int (nI k), .ref ra, .ref rb, .int (nI rs), .ref sm, .ref hh, .ref ps, .ref pb]))] s.heap := hP
  have hl := lv_entry (([.ref xo, .int i] : List Value)) (n := 2) (Nat.le_of_ble_eq_true rfl)
  rw [lg_entry_eq]
  generalize (lg_sl (([.ref xo, .int i] : List Value)) ++ List.replicate (2 - (lg_sl (([.ref xo, .int i] : List Value))).length) Slot.unset).toArray = ls at hl ⊢
  have hl : lv_has ls 2 [(0, .ref xo), (1, .int i)] := hl
  obtain ⟨H, hHe⟩ : ∃ H : Heap, H = s.heap := ⟨_, rfl⟩
  rw [← hHe] at hP
  have hS : va_S A s.heap H [] := by rw [hHe]; exact hS
  obtain ⟨locs, hlo⟩ : ∃ L : List Loc, L = [] := ⟨_, rfl⟩
  rw [← hlo] at hS ⊢
  rw [← hHe]
  have hpk := pw8 zk
  refine lv_aload_n hx hb dX3_a_0 rfl (lv_at hl 0 rfl) ?_
  refine lv_iload_n hx hb dX3_a_1 rfl (lv_at hl 1 rfl) ?_
  have hPc := hP.sub (ws' := [(xo, .inr (2, [.int (nI k), .ref ra, .ref rb, .int (nI rs), .ref sm, .ref hh, .ref ps, .ref pb]))]) [0] rfl
  have hDc := hD.sub (ws' := [(xo, .inr (2, [.int (nI k), .ref ra, .ref rb, .int (nI rs), .ref sm, .ref hh, .ref ps, .ref pb]))]) [0] (by decide) rfl
  have hKc := hK.sub (tys' := []) [] rfl
  have hFc := va_free (wc := [(xo, .inr (2, [.int (nI k), .ref ra, .ref rb, .int (nI rs), .ref sm, .ref hh, .ref ps, .ref pb]))]) hD hS hA [0] rfl
  refine vx_callv (vx_runV (As := [.int i]) (rest := []) ⟨hx, hb, hml, hown, hts⟩ (c_X3_requirePlace_bad l dC dI xo ra rb sm hh ps pb k rs i H.size hl9 tP sa (by omega) (by omega) hbad) (cwV 1 hts gX3_a_X3_requirePlace rfl rfl rfl (by decide +kernel) ⟨Nat.le_of_ble_eq_true rfl, Nat.le_of_ble_eq_true rfl⟩) ⟨fun a U g mk q => by obtain ⟨q0, q1, qP, qK, qD, qM⟩ := q; exact ⟨q0, q1, qP, va_K.moved (u := U) (U := U.calling g mk a) (Vm.Alike.refl U.vm) qK, qD, amb_same (U := U) (U' := U.calling g mk a) rfl rfl qM⟩, va_recv hKc hPc (ci := 2) (q0 := 0) rfl rfl, fun U hU hW => ⟨rfl, by rw [hU], by rw [hU]; exact hPc, va_K.moved hW.alike hKc, hDc.weaken (fun _ _ _ _ => trivial), amb_pass hM hS hFc hW hU⟩⟩ rfl rfl hl.1 rfl (lv_room (Nat.le_of_ble_eq_true rfl)) dX3_a_2 ⟨Nat.le_of_ble_eq_true rfl, Nat.le_of_ble_eq_true rfl⟩) hS (fun q _ h => hFc q h) hFc (fun q _ h => hFc q h) (fun E9 ce9 q9 u9 t9 H1 locs ht hvm hw hB hz1 hk1 hS hce hcv hcl => ?_) (fun u9 t9 H1 locs ht hvm hw hB hz1 hk1 hS => ?_)
  · obtain ⟨hxp, hP1, hD1⟩ := hB
    rw [ht] at hP1
    obtain ⟨hP, hD⟩ := va_join (wr := []) (w1 := [(xo, .inr (2, [.int (nI k), .ref ra, .ref rb, .int (nI rs), .ref sm, .ref hh, .ref ps, .ref pb]))]) hP hD [0] [] rfl rfl (by decide) (by decide) hk1 hFc hP1 hD1
    have hP9 : va_P (dC, dI) vwCl [(xo, .inr (2, [.int (nI k), .ref ra, .ref rb, .int (nI rs), .ref sm, .ref hh, .ref ps, .ref pb]))] H1 := hP.sub [0] rfl
    have hD9 : va_D A [(xo, .inr (2, [.int (nI k), .ref ra, .ref rb, .int (nI rs), .ref sm, .ref hh, .ref ps, .ref pb]))] := hD.sub [0] (by decide) rfl
    exact vx_out (E := E9) (fun x h => (htab x h).elim) hlocks hce hcv hcl (fun t ht9 hal => ⟨(), trivial, ⟨hxp, by rw [ht9]; exact hP9, hD9⟩, hS.F ht9⟩) hS.2.2 (Nat.le_of_ble_eq_true rfl) (Nat.le_of_ble_eq_true rfl)
  exact hw.elim

abbrev q_X3_setB_ok (dC : Nat → ClassId) (dI : Nat → Nat → Nat) (xo ra rb sm hh ps pb k rs : Nat) (cI : ClassId) (fB : Nat → Int32) (j : Nat) (v : Int32) (A : Nat → Prop) : Array Value → State → Outcome → State → Prop := va_Qi (fun (r : Int32) (u : Unit) => r = fB j) (fun u t => va_P (dC, dI) vwCl [(xo, .inr (2, [.int (nI k), .ref ra, .ref rb, .int (nI rs), .ref sm, .ref hh, .ref ps, .ref pb])), (rb, .inl (cI, 256, .inl (upd fB j v)))] t.heap ∧ va_D A [(xo, .inr (2, [.int (nI k), .ref ra, .ref rb, .int (nI rs), .ref sm, .ref hh, .ref ps, .ref pb])), (rb, .inl (cI, 256, .inl (upd fB j v)))]) A
set_option maxHeartbeats 4000000 in
set_option maxRecDepth 100000 in
theorem c_X3_setB_ok (l : Launch) (dC : Nat → ClassId) (dI : Nat → Nat → Nat) (xo ra rb sm hh ps pb k rs : Nat) (cI : ClassId) (fB : Nat → Int32) (j : Nat) (v : Int32) (sz : Nat) (zk1 : 1 ≤ k) (zk : k ≤ 8) (zj : j < 2 ^ k) : Met l yX3_setB wsX3_setB ({ frames := 2, cells := 0, slots := 0, locals := 41 }) (va_Pc [.ref xo, .int (nI j), .int v] (fun U => U.heap.size = sz ∧ va_P (dC, dI) vwCl [(xo, .inr (2, [.int (nI k), .ref ra, .ref rb, .int (nI rs), .ref sm, .ref hh, .ref ps, .ref pb])), (rb, .inl (cI, 256, .inl fB))] U.heap ∧ va_K (dC, dI) vwCl [(cI, .int)] U ∧ va_D (fun _ => True) [(xo, .inr (2, [.int (nI k), .ref ra, .ref rb, .int (nI rs), .ref sm, .ref hh, .ref ps, .ref pb])), (rb, .inl (cI, 256, .inl fB))])) (q_X3_setB_ok dC dI xo ra rb sm hh ps pb k rs cI fB j v (va_A [(xo, .inr (2, [.int (nI k), .ref ra, .ref rb, .int (nI rs), .ref sm, .ref hh, .ref ps, .ref pb])), (rb, .inl (cI, 256, .inl fB))] sz)) 0 0 (va_A [(xo, .inr (2, [.int (nI k), .ref ra, .ref rb, .int (nI rs), .ref sm, .ref hh, .ref ps, .ref pb])), (rb, .inl (cI, 256, .inl fB))] sz) := by
  refine Met.ofW (cc := cX3_setB) (maxL := 4) (ret := (some .int)) (by decide) rfl ?_
  intro p e s m args below meth c s₁ B hml hv
  obtain ⟨rfl, hsz, hP, hK, hD0⟩ := hv
  have hx := B.exec
  have hb := B.bytes
  have hr := B.returns
  have hts := atoms_spec (ws := wsX3_setB) B.pre
  have hown : s.vm.findClass RX3 = some m.cls := findClass_of_methodNamed B.named
  have hlocks := B.notSynchronized
  subst hsz
  have hD := hD0.self (sz := s.heap.size)
  generalize hAe : va_A [(xo, .inr (2, [.int (nI k), .ref ra, .ref rb, .int (nI rs), .ref sm, .ref hh, .ref ps, .ref pb])), (rb, .inl (cI, 256, .inl fB))] s.heap.size = A at hD ⊢
  have hA : ∀ q : Nat, s.heap.size ≤ q → A q := fun q h => by rw [← hAe]; exact Or.inr h
  have hS : va_S A s.heap s.heap [] := va_S.rf
  have hP : va_P (dC, dI) vwCl [(xo, .inr (2, [.int (nI k), .ref ra, .ref rb, .int (nI rs), .ref sm, .ref hh, .ref ps, .ref pb])), (rb, .inl (cI, 256, .inl fB))] s.heap := hP
  have hl := lv_entry (([.ref xo, .int (nI j), .int v] : List Value)) (n := 4) (Nat.le_of_ble_eq_true rfl)
  rw [lg_entry_eq]
  generalize (lg_sl (([.ref xo, .int (nI j), .int v] : List Value)) ++ List.replicate (4 - (lg_sl (([.ref xo, .int (nI j), .int v] : List Value))).length) Slot.unset).toArray = ls at hl ⊢
  have hl : lv_has ls 4 [(0, .ref xo), (1, .int (nI j)), (2, .int v)] := hl
  obtain ⟨H, hHe⟩ : ∃ H : Heap, H = s.heap := ⟨_, rfl⟩
  rw [← hHe] at hP
  have hS : va_S A s.heap H [] := by rw [hHe]; exact hS
  obtain ⟨locs, hlo⟩ : ∃ L : List Loc, L = [] := ⟨_, rfl⟩
  rw [← hlo] at hS ⊢
  rw [← hHe]
  have hpk := pw8 zk
  refine lv_aload_n hx hb dX3_setB_0 rfl (lv_at hl 0 rfl) ?_
  refine lv_iload_n hx hb dX3_setB_1 rfl (lv_at hl 1 rfl) ?_
  have hPc := hP.sub (ws' := [(xo, .inr (2, [.int (nI k), .ref ra, .ref rb, .int (nI rs), .ref sm, .ref hh, .ref ps, .ref pb]))]) [0] rfl
  have hDc := hD.sub (ws' := [(xo, .inr (2, [.int (nI k), .ref ra, .ref rb, .int (nI rs), .ref sm, .ref hh, .ref ps, .ref pb]))]) [0] (by decide) rfl
  have hKc := hK.sub (tys' := []) [] rfl
  have hFc := va_free (wc := [(xo, .inr (2, [.int (nI k), .ref ra, .ref rb, .int (nI rs), .ref sm, .ref hh, .ref ps, .ref pb]))]) hD hS hA [0] rfl
  refine va_callv (va_runV (As := [.int (nI j)]) (rest := []) ⟨hx, hb, hml, hown, hts⟩ (c_X3_requirePlace_ok l dC dI xo ra rb sm hh ps pb k rs j H.size (by omega) (by omega) (by omega)) (cwV 1 hts gX3_setB_X3_requirePlace rfl rfl rfl (by decide +kernel) ⟨Nat.le_of_ble_eq_true rfl, Nat.le_of_ble_eq_true rfl⟩) ⟨fun a U g mk q => by obtain ⟨q0, q1, qP, qK, qD⟩ := q; exact ⟨q0, q1, qP, va_K.moved (u := U) (U := U.calling g mk a) (Vm.Alike.refl U.vm) qK, qD⟩, va_recv hKc hPc (ci := 2) (q0 := 0) rfl rfl, fun U hU hW => ⟨rfl, by rw [hU], by rw [hU]; exact hPc, va_K.moved hW.alike hKc, hDc.weaken (fun _ _ _ _ => trivial)⟩⟩ rfl rfl hl.1 rfl (lv_room (Nat.le_of_ble_eq_true rfl)) dX3_setB_2 ⟨Nat.le_of_ble_eq_true rfl, Nat.le_of_ble_eq_true rfl⟩) hS (fun q _ h => hFc q h) hFc (fun u9 t9 H1 locs ht hvm hw hB hz1 hk1 hS => ?_)
  obtain ⟨hP1, hD1⟩ := hB
  rw [ht] at hP1
  try dsimp only at hw
  obtain ⟨hP, hD⟩ := va_join (wr := [(rb, .inl (cI, 256, .inl fB))]) (w1 := [(xo, .inr (2, [.int (nI k), .ref ra, .ref rb, .int (nI rs), .ref sm, .ref hh, .ref ps, .ref pb]))]) hP hD [0] [1] rfl rfl (by decide) (by decide) hk1 hFc hP1 hD1
  generalize H1 = H at hP hS ⊢
  have hP : va_P (dC, dI) vwCl [(rb, .inl (cI, 256, .inl fB)), (xo, .inr (2, [.int (nI k), .ref ra, .ref rb, .int (nI rs), .ref sm, .ref hh, .ref ps, .ref pb]))] H := hP
  have hD : va_D A [(rb, .inl (cI, 256, .inl fB)), (xo, .inr (2, [.int (nI k), .ref ra, .ref rb, .int (nI rs), .ref sm, .ref hh, .ref ps, .ref pb]))] := hD
  clear hPc hDc hKc hFc hP1 hD1 hk1 hz1 hvm ht
  clear hw
  refine lv_aload_n hx hb dX3_setB_5 rfl (lv_at hl 0 rfl) ?_
  refine va_get (D := (dC, dI)) (ci := 2) (v := .ref rb) (C := RX3) (T := TX3) (N := 8) hx hb hts (by decide +kernel) hown hK hP 1 rfl rfl 2 (by decide) (hts (.fieldLink RX3 17 "ThreePrimes" "rowB" "[I") (by decide +kernel)) (fun _ h9 => h9) rfl dX3_setB_6 ?_
  refine lv_iload_n hx hb dX3_setB_9 rfl (lv_at hl 1 rfl) ?_
  refine va_iald hx hb hK hP 0 0 rfl rfl (vp_in_nI (by omega) (by omega)) dX3_setB_10 ?_
  refine W.eq (g2 := F0 m _ ls [.int (fB j)]) (by rw [nI_clamp (by omega)]) ?_
  refine lv_istore_n (lv' := [(3, .int (fB j)), (0, .ref xo), (1, .int (nI j)), (2, .int v)]) hx hb dX3_setB_11 rfl hl (by decide) rfl (fun ls hl => ?_)
  refine lv_aload_n hx hb dX3_setB_12 rfl (lv_at hl 1 rfl) ?_
  refine va_get (D := (dC, dI)) (ci := 2) (v := .ref rb) (C := RX3) (T := TX3) (N := 8) hx hb hts (by decide +kernel) hown hK hP 1 rfl rfl 2 (by decide) (hts (.fieldLink RX3 17 "ThreePrimes" "rowB" "[I") (by decide +kernel)) (fun _ h9 => h9) rfl dX3_setB_13 ?_
  refine lv_iload_n hx hb dX3_setB_16 rfl (lv_at hl 2 rfl) ?_
  refine lv_iload_n hx hb dX3_setB_17 rfl (lv_at hl 3 rfl) ?_
  refine va_iast hx hb hK hP hD hS 0 0 rfl rfl (vp_in_nI (by omega) (by omega)) dX3_setB_18 (fun H locs hP hD hS => ?_)
  rw [nI_clamp (show j < 2 ^ 31 by omega)] at hP hD
  have hP : va_P (dC, dI) vwCl [(rb, .inl (cI, 256, .inl (upd fB j v))), (xo, .inr (2, [.int (nI k), .ref ra, .ref rb, .int (nI rs), .ref sm, .ref hh, .ref ps, .ref pb]))] H := hP
  have hD : va_D A [(rb, .inl (cI, 256, .inl (upd fB j v))), (xo, .inr (2, [.int (nI k), .ref ra, .ref rb, .int (nI rs), .ref sm, .ref hh, .ref ps, .ref pb]))] := hD
  refine lv_iload_n hx hb dX3_setB_19 rfl (lv_at hl 0 rfl) ?_
  have hP9 : va_P (dC, dI) vwCl [(xo, .inr (2, [.int (nI k), .ref ra, .ref rb, .int (nI rs), .ref sm, .ref hh, .ref ps, .ref pb])), (rb, .inl (cI, 256, .inl (upd fB j v)))] H := hP.sub [1, 0] rfl
  have hD9 : va_D A [(xo, .inr (2, [.int (nI k), .ref ra, .ref rb, .int (nI rs), .ref sm, .ref hh, .ref ps, .ref pb])), (rb, .inl (cI, 256, .inl (upd fB j v)))] := hD.sub [1, 0] (by decide) rfl
  exact W.iret (v := fB j) hx hb hr (fun t ht hW => ⟨⟨fB j, (), rfl, rfl, by rw [ht]; exact hP9, hD9⟩, hS.F ht⟩) hS.2.2 dX3_setB_20

abbrev q_X3_setB_bad (dC : Nat → ClassId) (dI : Nat → Nat → Nat) (xo ra rb sm hh ps pb k rs : Nat) (i v : Int32) (A : Nat → Prop) : Array Value → State → Outcome → State → Prop := va_Qi (fun (r : Int32) (u : Unit) => False) (fun u t => va_P (dC, dI) vwCl [(xo, .inr (2, [.int (nI k), .ref ra, .ref rb, .int (nI rs), .ref sm, .ref hh, .ref ps, .ref pb]))] t.heap ∧ va_D A [(xo, .inr (2, [.int (nI k), .ref ra, .ref rb, .int (nI rs), .ref sm, .ref hh, .ref ps, .ref pb]))]) A
abbrev x_X3_setB_bad (dC : Nat → ClassId) (dI : Nat → Nat → Nat) (xo ra rb sm hh ps pb k rs : Nat) (i v : Int32) (A : Nat → Prop) : String → State → State → Prop := vx_X (fun _ : Unit => True) (fun E _ t => (E = "java/lang/IndexOutOfBoundsException") ∧ va_P (dC, dI) vwCl [(xo, .inr (2, [.int (nI k), .ref ra, .ref rb, .int (nI rs), .ref sm, .ref hh, .ref ps, .ref pb]))] t.heap ∧ va_D A [(xo, .inr (2, [.int (nI k), .ref ra, .ref rb, .int (nI rs), .ref sm, .ref hh, .ref ps, .ref pb]))]) A
set_option maxHeartbeats 4000000 in
set_option maxRecDepth 100000 in
theorem c_X3_setB_bad (l : Launch) (dC : Nat → ClassId) (dI : Nat → Nat → Nat) (xo ra rb sm hh ps pb k rs : Nat) (i v : Int32) (sz : Nat) (hl9 : l.stackTraces = false) (tP : Nat) (sa : Nat → Nat) (zk1 : 1 ≤ k) (zk : k ≤ 8) (hbad : i < 0 ∨ nI (2 ^ k) ≤ i) : vx_Met l yX3_setB wsX3_setB ({ frames := 7, cells := 1, slots := 6, locals := 103 }) (va_Pc [.ref xo, .int i, .int v] (fun U => U.heap.size = sz ∧ va_P (dC, dI) vwCl [(xo, .inr (2, [.int (nI k), .ref ra, .ref rb, .int (nI rs), .ref sm, .ref hh, .ref ps, .ref pb]))] U.heap ∧ va_K (dC, dI) vwCl [] U ∧ va_D (fun _ => True) [(xo, .inr (2, [.int (nI k), .ref ra, .ref rb, .int (nI rs), .ref sm, .ref hh, .ref ps, .ref pb]))] ∧ amb tP sa (va_A [(xo, .inr (2, [.int (nI k), .ref ra, .ref rb, .int (nI rs), .ref sm, .ref hh, .ref ps, .ref pb]))] sz) U U.heap)) (q_X3_setB_bad dC dI xo ra rb sm hh ps pb k rs i v (va_A [(xo, .inr (2, [.int (nI k), .ref ra, .ref rb, .int (nI rs), .ref sm, .ref hh, .ref ps, .ref pb]))] sz)) (x_X3_setB_bad dC dI xo ra rb sm hh ps pb k rs i v (va_A [(xo, .inr (2, [.int (nI k), .ref ra, .ref rb, .int (nI rs), .ref sm, .ref hh, .ref ps, .ref pb]))] sz)) 1 6 (va_A [(xo, .inr (2, [.int (nI k), .ref ra, .ref rb, .int (nI rs), .ref sm, .ref hh, .ref ps, .ref pb]))] sz) := by
  refine vx_ofW (cc := cX3_setB) (maxL := 4) (ret := (some .int)) (by decide) rfl ?_
  intro p e s m args below meth c s₁ B hml htab hv
  obtain ⟨rfl, hsz, hP, hK, hD0, hM⟩ := hv
  have hx := B.exec
  have hb := B.bytes
  have hr := B.returns
  have hts := atoms_spec (ws := wsX3_setB) B.pre
  have hown : s.vm.findClass RX3 = some m.cls := findClass_of_methodNamed B.named
  have hlocks := B.notSynchronized
  subst hsz
  have hD := hD0.self (sz := s.heap.size)
  generalize hAe : va_A [(xo, .inr (2, [.int (nI k), .ref ra, .ref rb, .int (nI rs), .ref sm, .ref hh, .ref ps, .ref pb]))] s.heap.size = A at hD hM ⊢
  have hA : ∀ q : Nat, s.heap.size ≤ q → A q := fun q h => by rw [← hAe]; exact Or.inr h
  have hS : va_S A s.heap s.heap [] := va_S.rf
  have hP : va_P (dC, dI) vwCl [(xo, .inr (2, [.int (nI k), .ref ra, .ref rb, .int (nI rs), .ref sm, .ref hh, .ref ps, .ref pb]))] s.heap := hP
  have hl := lv_entry (([.ref xo, .int i, .int v] : List Value)) (n := 4) (Nat.le_of_ble_eq_true rfl)
  rw [lg_entry_eq]
  generalize (lg_sl (([.ref xo, .int i, .int v] : List Value)) ++ List.replicate (4 - (lg_sl (([.ref xo, .int i, .int v] : List Value))).length) Slot.unset).toArray = ls at hl ⊢
  have hl : lv_has ls 4 [(0, .ref xo), (1, .int i), (2, .int v)] := hl
  obtain ⟨H, hHe⟩ : ∃ H : Heap, H = s.heap := ⟨_, rfl⟩
  rw [← hHe] at hP
  have hS : va_S A s.heap H [] := by rw [hHe]; exact hS
  obtain ⟨locs, hlo⟩ : ∃ L : List Loc, L = [] := ⟨_, rfl⟩
  rw [← hlo] at hS ⊢
  rw [← hHe]
  have hpk := pw8 zk
  refine lv_aload_n hx hb dX3_setB_0 rfl (lv_at hl 0 rfl) ?_
  refine lv_iload_n hx hb dX3_setB_1 rfl (lv_at hl 1 rfl) ?_
  have hPc := hP.sub (ws' := [(xo, .inr (2, [.int (nI k), .ref ra, .ref rb, .int (nI rs), .ref sm, .ref hh, .ref ps, .ref pb]))]) [0] rfl
  have hDc := hD.sub (ws' := [(xo, .inr (2, [.int (nI k), .ref ra, .ref rb, .int (nI rs), .ref sm, .ref hh, .ref ps, .ref pb]))]) [0] (by decide) rfl
  have hKc := hK.sub (tys' := []) [] rfl
  have hFc := va_free (wc := [(xo, .inr (2, [.int (nI k), .ref ra, .ref rb, .int (nI rs), .ref sm, .ref hh, .ref ps, .ref pb]))]) hD hS hA [0] rfl
  refine vx_callv (vx_runV (As := [.int i]) (rest := []) ⟨hx, hb, hml, hown, hts⟩ (c_X3_requirePlace_bad l dC dI xo ra rb sm hh ps pb k rs i H.size hl9 tP sa (by omega) (by omega) hbad) (cwV 1 hts gX3_setB_X3_requirePlace rfl rfl rfl (by decide +kernel) ⟨Nat.le_of_ble_eq_true rfl, Nat.le_of_ble_eq_true rfl⟩) ⟨fun a U g mk q => by obtain ⟨q0, q1, qP, qK, qD, qM⟩ := q; exact ⟨q0, q1, qP, va_K.moved (u := U) (U := U.calling g mk a) (Vm.Alike.refl U.vm) qK, qD, amb_same (U := U) (U' := U.calling g mk a) rfl rfl qM⟩, va_recv hKc hPc (ci := 2) (q0 := 0) rfl rfl, fun U hU hW => ⟨rfl, by rw [hU], by rw [hU]; exact hPc, va_K.moved hW.alike hKc, hDc.weaken (fun _ _ _ _ => trivial), amb_pass hM hS hFc hW hU⟩⟩ rfl rfl hl.1 rfl (lv_room (Nat.le_of_ble_eq_true rfl)) dX3_setB_2 ⟨Nat.le_of_ble_eq_true rfl, Nat.le_of_ble_eq_true rfl⟩) hS (fun q _ h => hFc q h) hFc (fun q _ h => hFc q h) (fun E9 ce9 q9 u9 t9 H1 locs ht hvm hw hB hz1 hk1 hS hce hcv hcl => ?_) (fun u9 t9 H1 locs ht hvm hw hB hz1 hk1 hS => ?_)
  · obtain ⟨hxp, hP1, hD1⟩ := hB
    rw [ht] at hP1
    obtain ⟨hP, hD⟩ := va_join (wr := []) (w1 := [(xo, .inr (2, [.int (nI k), .ref ra, .ref rb, .int (nI rs), .ref sm, .ref hh, .ref ps, .ref pb]))]) hP hD [0] [] rfl rfl (by decide) (by decide) hk1 hFc hP1 hD1
    have hP9 : va_P (dC, dI) vwCl [(xo, .inr (2, [.int (nI k), .ref ra, .ref rb, .int (nI rs), .ref sm, .ref hh, .ref ps, .ref pb]))] H1 := hP.sub [0] rfl
    have hD9 : va_D A [(xo, .inr (2, [.int (nI k), .ref ra, .ref rb, .int (nI rs), .ref sm, .ref hh, .ref ps, .ref pb]))] := hD.sub [0] (by decide) rfl
    exact vx_out (E := E9) (fun x h => (htab x h).elim) hlocks hce hcv hcl (fun t ht9 hal => ⟨(), trivial, ⟨hxp, by rw [ht9]; exact hP9, hD9⟩, hS.F ht9⟩) hS.2.2 (Nat.le_of_ble_eq_true rfl) (Nat.le_of_ble_eq_true rfl)
  exact hw.elim

abbrev q_X3_b_ok (dC : Nat → ClassId) (dI : Nat → Nat → Nat) (xo ra rb sm hh ps pb k rs : Nat) (cI : ClassId) (fB : Nat → Int32) (j : Nat) (A : Nat → Prop) : Array Value → State → Outcome → State → Prop := va_Qi (fun (r : Int32) (u : Unit) => r = fB j) (fun u t => va_P (dC, dI) vwCl [(xo, .inr (2, [.int (nI k), .ref ra, .ref rb, .int (nI rs), .ref sm, .ref hh, .ref ps, .ref pb])), (rb, .inl (cI, 256, .inl fB))] t.heap ∧ va_D A [(xo, .inr (2, [.int (nI k), .ref ra, .ref rb, .int (nI rs), .ref sm, .ref hh, .ref ps, .ref pb])), (rb, .inl (cI, 256, .inl fB))]) A
set_option maxHeartbeats 4000000 in
set_option maxRecDepth 100000 in
theorem c_X3_b_ok (l : Launch) (dC : Nat → ClassId) (dI : Nat → Nat → Nat) (xo ra rb sm hh ps pb k rs : Nat) (cI : ClassId) (fB : Nat → Int32) (j : Nat) (sz : Nat) (zk1 : 1 ≤ k) (zk : k ≤ 8) (zj : j < 2 ^ k) : Met l yX3_b wsX3_b ({ frames := 2, cells := 0, slots := 0, locals := 41 }) (va_Pc [.ref xo, .int (nI j)] (fun U => U.heap.size = sz ∧ va_P (dC, dI) vwCl [(xo, .inr (2, [.int (nI k), .ref ra, .ref rb, .int (nI rs), .ref sm, .ref hh, .ref ps, .ref pb])), (rb, .inl (cI, 256, .inl fB))] U.heap ∧ va_K (dC, dI) vwCl [(cI, .int)] U ∧ va_D (fun _ => True) [(xo, .inr (2, [.int (nI k), .ref ra, .ref rb, .int (nI rs), .ref sm, .ref hh, .ref ps, .ref pb])), (rb, .inl (cI, 256, .inl fB))])) (q_X3_b_ok dC dI xo ra rb sm hh ps pb k rs cI fB j (va_A [(xo, .inr (2, [.int (nI k), .ref ra, .ref rb, .int (nI rs), .ref sm, .ref hh, .ref ps, .ref pb])), (rb, .inl (cI, 256, .inl fB))] sz)) 0 0 (va_A [(xo, .inr (2, [.int (nI k), .ref ra, .ref rb, .int (nI rs), .ref sm, .ref hh, .ref ps, .ref pb])), (rb, .inl (cI, 256, .inl fB))] sz) := by
  refine Met.ofW (cc := cX3_b) (maxL := 2) (ret := (some .int)) (by decide) rfl ?_
  intro p e s m args below meth c s₁ B hml hv
  obtain ⟨rfl, hsz, hP, hK, hD0⟩ := hv
  have hx := B.exec
  have hb := B.bytes
  have hr := B.returns
  have hts := atoms_spec (ws := wsX3_b) B.pre
  have hown : s.vm.findClass RX3 = some m.cls := findClass_of_methodNamed B.named
  have hlocks := B.notSynchronized
  subst hsz
  have hD := hD0.self (sz := s.heap.size)
  generalize hAe : va_A [(xo, .inr (2, [.int (nI k), .ref ra, .ref rb, .int (nI rs), .ref sm, .ref hh, .ref ps, .ref pb])), (rb, .inl (cI, 256, .inl fB))] s.heap.size = A at hD ⊢
  have hA : ∀ q : Nat, s.heap.size ≤ q → A q := fun q h => by rw [← hAe]; exact Or.inr h
  have hS : va_S A s.heap s.heap [] := va_S.rf
  have hP : va_P (dC, dI) vwCl [(xo, .inr (2, [.int (nI k), .ref ra, .ref rb, .int (nI rs), .ref sm, .ref hh, .ref ps, .ref pb])), (rb, .inl (cI, 256, .inl fB))] s.heap := hP
  have hl := lv_entry (([.ref xo, .int (nI j)] : List Value)) (n := 2) (Nat.le_of_ble_eq_true rfl)
  rw [lg_entry_eq]
  generalize (lg_sl (([.ref xo, .int (nI j)] : List Value)) ++ List.replicate (2 - (lg_sl (([.ref xo, .int (nI j)] : List Value))).length) Slot.unset).toArray = ls at hl ⊢
  have hl : lv_has ls 2 [(0, .ref xo), (1, .int (nI j))] := hl
  obtain ⟨H, hHe⟩ : ∃ H : Heap, H = s.heap := ⟨_, rfl⟩
  rw [← hHe] at hP
  have hS : va_S A s.heap H [] := by rw [hHe]; exact hS
  obtain ⟨locs, hlo⟩ : ∃ L : List Loc, L = [] := ⟨_, rfl⟩
  rw [← hlo] at hS ⊢
  rw [← hHe]
  have hpk := pw8 zk
  refine lv_aload_n hx hb dX3_b_0 rfl (lv_at hl 0 rfl) ?_
  refine lv_iload_n hx hb dX3_b_1 rfl (lv_at hl 1 rfl) ?_
  have hPc := hP.sub (ws' := [(xo, .inr (2, [.int (nI k), .ref ra, .ref rb, .int (nI rs), .ref sm, .ref hh, .ref ps, .ref pb]))]) [0] rfl
  have hDc := hD.sub (ws' := [(xo, .inr (2, [.int (nI k), .ref ra, .ref rb, .int (nI rs), .ref sm, .ref hh, .ref ps, .ref pb]))]) [0] (by decide) rfl
  have hKc := hK.sub (tys' := []) [] rfl
  have hFc := va_free (wc := [(xo, .inr (2, [.int (nI k), .ref ra, .ref rb, .int (nI rs), .ref sm, .ref hh, .ref ps, .ref pb]))]) hD hS hA [0] rfl
  refine va_callv (va_runV (As := [.int (nI j)]) (rest := []) ⟨hx, hb, hml, hown, hts⟩ (c_X3_requirePlace_ok l dC dI xo ra rb sm hh ps pb k rs j H.size (by omega) (by omega) (by omega)) (cwV 1 hts gX3_b_X3_requirePlace rfl rfl rfl (by decide +kernel) ⟨Nat.le_of_ble_eq_true rfl, Nat.le_of_ble_eq_true rfl⟩) ⟨fun a U g mk q => by obtain ⟨q0, q1, qP, qK, qD⟩ := q; exact ⟨q0, q1, qP, va_K.moved (u := U) (U := U.calling g mk a) (Vm.Alike.refl U.vm) qK, qD⟩, va_recv hKc hPc (ci := 2) (q0 := 0) rfl rfl, fun U hU hW => ⟨rfl, by rw [hU], by rw [hU]; exact hPc, va_K.moved hW.alike hKc, hDc.weaken (fun _ _ _ _ => trivial)⟩⟩ rfl rfl hl.1 rfl (lv_room (Nat.le_of_ble_eq_true rfl)) dX3_b_2 ⟨Nat.le_of_ble_eq_true rfl, Nat.le_of_ble_eq_true rfl⟩) hS (fun q _ h => hFc q h) hFc (fun u9 t9 H1 locs ht hvm hw hB hz1 hk1 hS => ?_)
  obtain ⟨hP1, hD1⟩ := hB
  rw [ht] at hP1
  try dsimp only at hw
  obtain ⟨hP, hD⟩ := va_join (wr := [(rb, .inl (cI, 256, .inl fB))]) (w1 := [(xo, .inr (2, [.int (nI k), .ref ra, .ref rb, .int (nI rs), .ref sm, .ref hh, .ref ps, .ref pb]))]) hP hD [0] [1] rfl rfl (by decide) (by decide) hk1 hFc hP1 hD1
  generalize H1 = H at hP hS ⊢
  have hP : va_P (dC, dI) vwCl [(rb, .inl (cI, 256, .inl fB)), (xo, .inr (2, [.int (nI k), .ref ra, .ref rb, .int (nI rs), .ref sm, .ref hh, .ref ps, .ref pb]))] H := hP
  have hD : va_D A [(rb, .inl (cI, 256, .inl fB)), (xo, .inr (2, [.int (nI k), .ref ra, .ref rb, .int (nI rs), .ref sm, .ref hh, .ref ps, .ref pb]))] := hD
  clear hPc hDc hKc hFc hP1 hD1 hk1 hz1 hvm ht
  clear hw
  refine lv_aload_n hx hb dX3_b_5 rfl (lv_at hl 0 rfl) ?_
  refine va_get (D := (dC, dI)) (ci := 2) (v := .ref rb) (C := RX3) (T := TX3) (N := 8) hx hb hts (by decide +kernel) hown hK hP 1 rfl rfl 2 (by decide) (hts (.fieldLink RX3 17 "ThreePrimes" "rowB" "[I") (by decide +kernel)) (fun _ h9 => h9) rfl dX3_b_6 ?_
  refine lv_iload_n hx hb dX3_b_9 rfl (lv_at hl 1 rfl) ?_
  refine va_iald hx hb hK hP 0 0 rfl rfl (vp_in_nI (by omega) (by omega)) dX3_b_10 ?_
  refine W.eq (g2 := F0 m _ ls [.int (fB j)]) (by rw [nI_clamp (by omega)]) ?_
  have hP9 : va_P (dC, dI) vwCl [(xo, .inr (2, [.int (nI k), .ref ra, .ref rb, .int (nI rs), .ref sm, .ref hh, .ref ps, .ref pb])), (rb, .inl (cI, 256, .inl fB))] H := hP.sub [1, 0] rfl
  have hD9 : va_D A [(xo, .inr (2, [.int (nI k), .ref ra, .ref rb, .int (nI rs), .ref sm, .ref hh, .ref ps, .ref pb])), (rb, .inl (cI, 256, .inl fB))] := hD.sub [1, 0] (by decide) rfl
  exact W.iret (v := fB j) hx hb hr (fun t ht hW => ⟨⟨fB j, (), rfl, rfl, by rw [ht]; exact hP9, hD9⟩, hS.F ht⟩) hS.2.2 dX3_b_11

abbrev q_X3_b_bad (dC : Nat → ClassId) (dI : Nat → Nat → Nat) (xo ra rb sm hh ps pb k rs : Nat) (i : Int32) (A : Nat → Prop) : Array Value → State → Outcome → State → Prop := va_Qi (fun (r : Int32) (u : Unit) => False) (fun u t => va_P (dC, dI) vwCl [(xo, .inr (2, [.int (nI k), .ref ra, .ref rb, .int (nI rs), .ref sm, .ref hh, .ref ps, .ref pb]))] t.heap ∧ va_D A [(xo, .inr (2, [.int (nI k), .ref ra, .ref rb, .int (nI rs), .ref sm, .ref hh, .ref ps, .ref pb]))]) A
abbrev x_X3_b_bad (dC : Nat → ClassId) (dI : Nat → Nat → Nat) (xo ra rb sm hh ps pb k rs : Nat) (i : Int32) (A : Nat → Prop) : String → State → State → Prop := vx_X (fun _ : Unit => True) (fun E _ t => (E = "java/lang/IndexOutOfBoundsException") ∧ va_P (dC, dI) vwCl [(xo, .inr (2, [.int (nI k), .ref ra, .ref rb, .int (nI rs), .ref sm, .ref hh, .ref ps, .ref pb]))] t.heap ∧ va_D A [(xo, .inr (2, [.int (nI k), .ref ra, .ref rb, .int (nI rs), .ref sm, .ref hh, .ref ps, .ref pb]))]) A
set_option maxHeartbeats 4000000 in
set_option maxRecDepth 100000 in
theorem c_X3_b_bad (l : Launch) (dC : Nat → ClassId) (dI : Nat → Nat → Nat) (xo ra rb sm hh ps pb k rs : Nat) (i : Int32) (sz : Nat) (hl9 : l.stackTraces = false) (tP : Nat) (sa : Nat → Nat) (zk1 : 1 ≤ k) (zk : k ≤ 8) (hbad : i < 0 ∨ nI (2 ^ k) ≤ i) : vx_Met l yX3_b wsX3_b ({ frames := 7, cells := 1, slots := 6, locals := 103 }) (va_Pc [.ref xo, .int i] (fun U => U.heap.size = sz ∧ va_P (dC, dI) vwCl [(xo, .inr (2, [.int (nI k), .ref ra, .ref rb, .int (nI rs), .ref sm, .ref hh, .ref ps, .ref pb]))] U.heap ∧ va_K (dC, dI) vwCl [] U ∧ va_D (fun _ => True) [(xo, .inr (2, [.int (nI k), .ref ra, .ref rb, .int (nI rs), .ref sm, .ref hh, .ref ps, .ref pb]))] ∧ amb tP sa (va_A [(xo, .inr (2, [.int (nI k), .ref ra, .ref rb, .int (nI rs), .ref sm, .ref hh, .ref ps, .ref pb]))] sz) U U.heap)) (q_X3_b_bad dC dI xo ra rb sm hh ps pb k rs i (va_A [(xo, .inr (2, [.int (nI k), .ref ra, .ref rb, .int (nI rs), .ref sm, .ref hh, .ref ps, .ref pb]))] sz)) (x_X3_b_bad dC dI xo ra rb sm hh ps pb k rs i (va_A [(xo, .inr (2, [.int (nI k), .ref ra, .ref rb, .int (nI rs), .ref sm, .ref hh, .ref ps, .ref pb]))] sz)) 1 6 (va_A [(xo, .inr (2, [.int (nI k), .ref ra, .ref rb, .int (nI rs), .ref sm, .ref hh, .ref ps, .ref pb]))] sz) := by
  refine vx_ofW (cc := cX3_b) (maxL := 2) (ret := (some .int)) (by decide) rfl ?_
  intro p e s m args below meth c s₁ B hml htab hv
  obtain ⟨rfl, hsz, hP, hK, hD0, hM⟩ := hv
  have hx := B.exec
  have hb := B.bytes
  have hr := B.returns
  have hts := atoms_spec (ws := wsX3_b) B.pre
  have hown : s.vm.findClass RX3 = some m.cls := findClass_of_methodNamed B.named
  have hlocks := B.notSynchronized
  subst hsz
  have hD := hD0.self (sz := s.heap.size)
  generalize hAe : va_A [(xo, .inr (2, [.int (nI k), .ref ra, .ref rb, .int (nI rs), .ref sm, .ref hh, .ref ps, .ref pb]))] s.heap.size = A at hD hM ⊢
  have hA : ∀ q : Nat, s.heap.size ≤ q → A q := fun q h => by rw [← hAe]; exact Or.inr h
  have hS : va_S A s.heap s.heap [] := va_S.rf
  have hP : va_P (dC, dI) vwCl [(xo, .inr (2, [.int (nI k), .ref ra, .ref rb, .int (nI rs), .ref sm, .ref hh, .ref ps, .ref pb]))] s.heap := hP
  have hl := lv_entry (([.ref xo, .int i] : List Value)) (n := 2) (Nat.le_of_ble_eq_true rfl)
  rw [lg_entry_eq]
  generalize (lg_sl (([.ref xo, .int i] : List Value)) ++ List.replicate (2 - (lg_sl (([.ref xo, .int i] : List Value))).length) Slot.unset).toArray = ls at hl ⊢
  have hl : lv_has ls 2 [(0, .ref xo), (1, .int i)] := hl
  obtain ⟨H, hHe⟩ : ∃ H : Heap, H = s.heap := ⟨_, rfl⟩
  rw [← hHe] at hP
  have hS : va_S A s.heap H [] := by rw [hHe]; exact hS
  obtain ⟨locs, hlo⟩ : ∃ L : List Loc, L = [] := ⟨_, rfl⟩
  rw [← hlo] at hS ⊢
  rw [← hHe]
  have hpk := pw8 zk
  refine lv_aload_n hx hb dX3_b_0 rfl (lv_at hl 0 rfl) ?_
  refine lv_iload_n hx hb dX3_b_1 rfl (lv_at hl 1 rfl) ?_
  have hPc := hP.sub (ws' := [(xo, .inr (2, [.int (nI k), .ref ra, .ref rb, .int (nI rs), .ref sm, .ref hh, .ref ps, .ref pb]))]) [0] rfl
  have hDc := hD.sub (ws' := [(xo, .inr (2, [.int (nI k), .ref ra, .ref rb, .int (nI rs), .ref sm, .ref hh, .ref ps, .ref pb]))]) [0] (by decide) rfl
  have hKc := hK.sub (tys' := []) [] rfl
  have hFc := va_free (wc := [(xo, .inr (2, [.int (nI k), .ref ra, .ref rb, .int (nI rs), .ref sm, .ref hh, .ref ps, .ref pb]))]) hD hS hA [0] rfl
  refine vx_callv (vx_runV (As := [.int i]) (rest := []) ⟨hx, hb, hml, hown, hts⟩ (c_X3_requirePlace_bad l dC dI xo ra rb sm hh ps pb k rs i H.size hl9 tP sa (by omega) (by omega) hbad) (cwV 1 hts gX3_b_X3_requirePlace rfl rfl rfl (by decide +kernel) ⟨Nat.le_of_ble_eq_true rfl, Nat.le_of_ble_eq_true rfl⟩) ⟨fun a U g mk q => by obtain ⟨q0, q1, qP, qK, qD, qM⟩ := q; exact ⟨q0, q1, qP, va_K.moved (u := U) (U := U.calling g mk a) (Vm.Alike.refl U.vm) qK, qD, amb_same (U := U) (U' := U.calling g mk a) rfl rfl qM⟩, va_recv hKc hPc (ci := 2) (q0 := 0) rfl rfl, fun U hU hW => ⟨rfl, by rw [hU], by rw [hU]; exact hPc, va_K.moved hW.alike hKc, hDc.weaken (fun _ _ _ _ => trivial), amb_pass hM hS hFc hW hU⟩⟩ rfl rfl hl.1 rfl (lv_room (Nat.le_of_ble_eq_true rfl)) dX3_b_2 ⟨Nat.le_of_ble_eq_true rfl, Nat.le_of_ble_eq_true rfl⟩) hS (fun q _ h => hFc q h) hFc (fun q _ h => hFc q h) (fun E9 ce9 q9 u9 t9 H1 locs ht hvm hw hB hz1 hk1 hS hce hcv hcl => ?_) (fun u9 t9 H1 locs ht hvm hw hB hz1 hk1 hS => ?_)
  · obtain ⟨hxp, hP1, hD1⟩ := hB
    rw [ht] at hP1
    obtain ⟨hP, hD⟩ := va_join (wr := []) (w1 := [(xo, .inr (2, [.int (nI k), .ref ra, .ref rb, .int (nI rs), .ref sm, .ref hh, .ref ps, .ref pb]))]) hP hD [0] [] rfl rfl (by decide) (by decide) hk1 hFc hP1 hD1
    have hP9 : va_P (dC, dI) vwCl [(xo, .inr (2, [.int (nI k), .ref ra, .ref rb, .int (nI rs), .ref sm, .ref hh, .ref ps, .ref pb]))] H1 := hP.sub [0] rfl
    have hD9 : va_D A [(xo, .inr (2, [.int (nI k), .ref ra, .ref rb, .int (nI rs), .ref sm, .ref hh, .ref ps, .ref pb]))] := hD.sub [0] (by decide) rfl
    exact vx_out (E := E9) (fun x h => (htab x h).elim) hlocks hce hcv hcl (fun t ht9 hal => ⟨(), trivial, ⟨hxp, by rw [ht9]; exact hP9, hD9⟩, hS.F ht9⟩) hS.2.2 (Nat.le_of_ble_eq_true rfl) (Nat.le_of_ble_eq_true rfl)
  exact hw.elim

abbrev q_X3_swap_ok (dC : Nat → ClassId) (dI : Nat → Nat → Nat) (xo ra rb sm hh ps pb k rs : Nat) (A : Nat → Prop) : Array Value → State → Outcome → State → Prop := va_Qv (fun (u : Unit) => True) (fun u t => va_P (dC, dI) vwCl [(xo, .inr (2, [.int (nI k), .ref rb, .ref ra, .int (nI rs), .ref sm, .ref hh, .ref ps, .ref pb]))] t.heap ∧ va_D A [(xo, .inr (2, [.int (nI k), .ref rb, .ref ra, .int (nI rs), .ref sm, .ref hh, .ref ps, .ref pb]))]) A
set_option maxHeartbeats 4000000 in
set_option maxRecDepth 100000 in
theorem c_X3_swap_ok (l : Launch) (dC : Nat → ClassId) (dI : Nat → Nat → Nat) (xo ra rb sm hh ps pb k rs : Nat) (sz : Nat) : Met l yX3_swap wsX3_swap ({ frames := 0, cells := 0, slots := 0, locals := 0 }) (va_Pc [.ref xo] (fun U => U.heap.size = sz ∧ va_P (dC, dI) vwCl [(xo, .inr (2, [.int (nI k), .ref ra, .ref rb, .int (nI rs), .ref sm, .ref hh, .ref ps, .ref pb]))] U.heap ∧ va_K (dC, dI) vwCl [] U ∧ va_D (fun _ => True) [(xo, .inr (2, [.int (nI k), .ref ra, .ref rb, .int (nI rs), .ref sm, .ref hh, .ref ps, .ref pb]))])) (q_X3_swap_ok dC dI xo ra rb sm hh ps pb k rs (va_A [(xo, .inr (2, [.int (nI k), .ref ra, .ref rb, .int (nI rs), .ref sm, .ref hh, .ref ps, .ref pb]))] sz)) 0 0 (va_A [(xo, .inr (2, [.int (nI k), .ref ra, .ref rb, .int (nI rs), .ref sm, .ref hh, .ref ps, .ref pb]))] sz) := by
  refine Met.ofW (cc := cX3_swap) (maxL := 2) (ret := none) (by decide) rfl ?_
  intro p e s m args below meth c s₁ B hml hv
  obtain ⟨rfl, hsz, hP, hK, hD0⟩ := hv
  have hx := B.exec
  have hb := B.bytes
  have hr := B.returns
  have hts := atoms_spec (ws := wsX3_swap) B.pre
  have hown : s.vm.findClass RX3 = some m.cls := findClass_of_methodNamed B.named
  have hlocks := B.notSynchronized
  subst hsz
  have hD := hD0.self (sz := s.heap.size)
  generalize hAe : va_A [(xo, .inr (2, [.int (nI k), .ref ra, .ref rb, .int (nI rs), .ref sm, .ref hh, .ref ps, .ref pb]))] s.heap.size = A at hD ⊢
  have hA : ∀ q : Nat, s.heap.size ≤ q → A q := fun q h => by rw [← hAe]; exact Or.inr h
  have hS : va_S A s.heap s.heap [] := va_S.rf
  have hP : va_P (dC, dI) vwCl [(xo, .inr (2, [.int (nI k), .ref ra, .ref rb, .int (nI rs), .ref sm, .ref hh, .ref ps, .ref pb]))] s.heap := hP
  have hl := lv_entry (([.ref xo] : List Value)) (n := 2) (Nat.le_of_ble_eq_true rfl)
  rw [lg_entry_eq]
  generalize (lg_sl (([.ref xo] : List Value)) ++ List.replicate (2 - (lg_sl (([.ref xo] : List Value))).length) Slot.unset).toArray = ls at hl ⊢
  have hl : lv_has ls 2 [(0, .ref xo)] := hl
  obtain ⟨H, hHe⟩ : ∃ H : Heap, H = s.heap := ⟨_, rfl⟩
  rw [← hHe] at hP
  have hS : va_S A s.heap H [] := by rw [hHe]; exact hS
  obtain ⟨locs, hlo⟩ : ∃ L : List Loc, L = [] := ⟨_, rfl⟩
  rw [← hlo] at hS ⊢
  rw [← hHe]
  refine lv_aload_n hx hb dX3_swap_0 rfl (lv_at hl 0 rfl) ?_
  refine va_get (D := (dC, dI)) (ci := 2) (v := .ref ra) (C := RX3) (T := TX3) (N := 8) hx hb hts (by decide +kernel) hown hK hP 0 rfl rfl 1 (by decide) (hts (.fieldLink RX3 13 "ThreePrimes" "rowA" "[I") (by decide +kernel)) (fun _ h9 => h9) rfl dX3_swap_1 ?_
  refine lv_astore_n (lv' := [(1, .ref ra), (0, .ref xo)]) hx hb dX3_swap_4 rfl hl (by decide) rfl (fun ls hl => ?_)
  refine lv_aload_n hx hb dX3_swap_5 rfl (lv_at hl 1 rfl) ?_
  refine lv_aload_n hx hb dX3_swap_6 rfl (lv_at hl 1 rfl) ?_
  refine va_get (D := (dC, dI)) (ci := 2) (v := .ref rb) (C := RX3) (T := TX3) (N := 8) hx hb hts (by decide +kernel) hown hK hP 0 rfl rfl 2 (by decide) (hts (.fieldLink RX3 17 "ThreePrimes" "rowB" "[I") (by decide +kernel)) (fun _ h9 => h9) rfl dX3_swap_7 ?_
  refine va_put (D := (dC, dI)) (ci := 2) (v := .ref rb) (ty := .array .int) (C := RX3) (T := TX3) (N := 8) hx hb hts (by decide +kernel) tyX3 tyX3_ok nmX3 hown hK hP hD hS 0 rfl rfl 1 (by decide) (hts (.fieldLink RX3 13 "ThreePrimes" "rowA" "[I") (by decide +kernel)) (fun _ h9 => h9) rfl (by decide +kernel) rfl rfl (Nat.le_of_ble_eq_true rfl) dX3_swap_10 (fun H locs hP hD hS => ?_)
  have hP : va_P (dC, dI) vwCl [(xo, .inr (2, [.int (nI k), .ref rb, .ref rb, .int (nI rs), .ref sm, .ref hh, .ref ps, .ref pb]))] H := hP
  have hD : va_D A [(xo, .inr (2, [.int (nI k), .ref rb, .ref rb, .int (nI rs), .ref sm, .ref hh, .ref ps, .ref pb]))] := hD
  refine lv_aload_n hx hb dX3_swap_13 rfl (lv_at hl 1 rfl) ?_
  refine lv_aload_n hx hb dX3_swap_14 rfl (lv_at hl 0 rfl) ?_
  refine va_put (D := (dC, dI)) (ci := 2) (v := .ref ra) (ty := .array .int) (C := RX3) (T := TX3) (N := 8) hx hb hts (by decide +kernel) tyX3 tyX3_ok nmX3 hown hK hP hD hS 0 rfl rfl 2 (by decide) (hts (.fieldLink RX3 17 "ThreePrimes" "rowB" "[I") (by decide +kernel)) (fun _ h9 => h9) rfl (by decide +kernel) rfl rfl (Nat.le_of_ble_eq_true rfl) dX3_swap_15 (fun H locs hP hD hS => ?_)
  have hP : va_P (dC, dI) vwCl [(xo, .inr (2, [.int (nI k), .ref rb, .ref ra, .int (nI rs), .ref sm, .ref hh, .ref ps, .ref pb]))] H := hP
  have hD : va_D A [(xo, .inr (2, [.int (nI k), .ref rb, .ref ra, .int (nI rs), .ref sm, .ref hh, .ref ps, .ref pb]))] := hD
  have hP9 : va_P (dC, dI) vwCl [(xo, .inr (2, [.int (nI k), .ref rb, .ref ra, .int (nI rs), .ref sm, .ref hh, .ref ps, .ref pb]))] H := hP.sub [0] rfl
  have hD9 : va_D A [(xo, .inr (2, [.int (nI k), .ref rb, .ref ra, .int (nI rs), .ref sm, .ref hh, .ref ps, .ref pb]))] := hD.sub [0] (by decide) rfl
  exact W.vret hx hb hr (fun t ht hW => ⟨⟨(), rfl, trivial, by rw [ht]; exact hP9, hD9⟩, hS.F ht⟩) hS.2.2 dX3_swap_18

abbrev q_X3_fold_0 (dC : Nat → ClassId) (dI : Nat → Nat → Nat) (xo ra rb sm hh ps pb k rs : Nat) (cI cJ cO : ClassId) (lf rt rp so r0 r1 r2 : Nat) (g : Nat → Option Nat) (fA fB R0 R1 R2 : Nat → Int32) (FL FR FP : Nat → Int) (A : Nat → Prop) : Array Value → State → Outcome → State → Prop := va_Qi (fun (r : Int32) (u : Grb) => r = nI (cntK 0 k)) (fun u t => va_P (dC, dI) vwCl [(xo, .inr (2, [.int (nI k), .ref ra, .ref rb, .int (nI (cntK 0 k)), .ref sm, .ref hh, .ref ps, .ref pb])), (hh, .inr (0, [.ref lf, .ref rt, .ref rp])), (lf, .inl (cJ, 512, .inr (.inl (fun j => lI ((u.1 3) j))))), (rt, .inl (cJ, 512, .inr (.inl (fun j => lI ((u.2.1 3) j))))), (rp, .inl (cJ, 256, .inr (.inl (fun j => lI ((u.2.2 3) j))))), (ra, .inl (cI, 256, .inl fA)), (rb, .inl (cI, 256, .inl fB)), (sm, .inr (1, [.ref so])), (so, .inl (cO, 3, .inr (.inr (.inr (.inr g))))), (r0, .inl (cI, 511, .inl (stR R0 (fdq 0 fA fB (u.1 0) (u.2.1 0) (u.2.2 0) k 998244353) (cntK 0 k)))), (r1, .inl (cI, 511, .inl (stR R1 (fdq 0 fA fB (u.1 1) (u.2.1 1) (u.2.2 1) k 167772161) (cntK 0 k)))), (r2, .inl (cI, 511, .inl (stR R2 (fdq 0 fA fB (u.1 2) (u.2.1 2) (u.2.2 2) k 469762049) (cntK 0 k))))] t.heap ∧ va_D A [(xo, .inr (2, [.int (nI k), .ref ra, .ref rb, .int (nI (cntK 0 k)), .ref sm, .ref hh, .ref ps, .ref pb])), (hh, .inr (0, [.ref lf, .ref rt, .ref rp])), (lf, .inl (cJ, 512, .inr (.inl (fun j => lI ((u.1 3) j))))), (rt, .inl (cJ, 512, .inr (.inl (fun j => lI ((u.2.1 3) j))))), (rp, .inl (cJ, 256, .inr (.inl (fun j => lI ((u.2.2 3) j))))), (ra, .inl (cI, 256, .inl fA)), (rb, .inl (cI, 256, .inl fB)), (sm, .inr (1, [.ref so])), (so, .inl (cO, 3, .inr (.inr (.inr (.inr g))))), (r0, .inl (cI, 511, .inl (stR R0 (fdq 0 fA fB (u.1 0) (u.2.1 0) (u.2.2 0) k 998244353) (cntK 0 k)))), (r1, .inl (cI, 511, .inl (stR R1 (fdq 0 fA fB (u.1 1) (u.2.1 1) (u.2.2 1) k 167772161) (cntK 0 k)))), (r2, .inl (cI, 511, .inl (stR R2 (fdq 0 fA fB (u.1 2) (u.2.1 2) (u.2.2 2) k 469762049) (cntK 0 k))))]) A
set_option maxHeartbeats 4000000 in
set_option maxRecDepth 100000 in
theorem c_X3_fold_0 (l : Launch) (dC : Nat → ClassId) (dI : Nat → Nat → Nat) (xo ra rb sm hh ps pb k rs : Nat) (cI cJ cO : ClassId) (lf rt rp so r0 r1 r2 : Nat) (g : Nat → Option Nat) (fA fB R0 R1 R2 : Nat → Int32) (FL FR FP : Nat → Int) (sz : Nat) (tP : Nat) (sa : Nat → Nat) (zk1 : 1 ≤ k) (zk : k ≤ 8) (hg0 : g 0 = some r0) (hg1 : g 1 = some r1) (hg2 : g 2 = some r2) : Met l yX3_fold wsX3_fold ({ frames := 5, cells := 0, slots := 0, locals := 132 }) (va_Pc [.ref xo, .int (nI 0)] (fun U => U.heap.size = sz ∧ va_P (dC, dI) vwCl [(xo, .inr (2, [.int (nI k), .ref ra, .ref rb, .int (nI rs), .ref sm, .ref hh, .ref ps, .ref pb])), (hh, .inr (0, [.ref lf, .ref rt, .ref rp])), (lf, .inl (cJ, 512, .inr (.inl (fun j => lI (FL j))))), (rt, .inl (cJ, 512, .inr (.inl (fun j => lI (FR j))))), (rp, .inl (cJ, 256, .inr (.inl (fun j => lI (FP j))))), (ra, .inl (cI, 256, .inl fA)), (rb, .inl (cI, 256, .inl fB)), (sm, .inr (1, [.ref so])), (so, .inl (cO, 3, .inr (.inr (.inr (.inr g))))), (r0, .inl (cI, 511, .inl R0)), (r1, .inl (cI, 511, .inl R1)), (r2, .inl (cI, 511, .inl R2))] U.heap ∧ va_K (dC, dI) vwCl [(cI, .int), (cJ, .long), (cO, .array .int)] U ∧ va_D (fun _ => True) [(xo, .inr (2, [.int (nI k), .ref ra, .ref rb, .int (nI rs), .ref sm, .ref hh, .ref ps, .ref pb])), (hh, .inr (0, [.ref lf, .ref rt, .ref rp])), (lf, .inl (cJ, 512, .inr (.inl (fun j => lI (FL j))))), (rt, .inl (cJ, 512, .inr (.inl (fun j => lI (FR j))))), (rp, .inl (cJ, 256, .inr (.inl (fun j => lI (FP j))))), (ra, .inl (cI, 256, .inl fA)), (rb, .inl (cI, 256, .inl fB)), (sm, .inr (1, [.ref so])), (so, .inl (cO, 3, .inr (.inr (.inr (.inr g))))), (r0, .inl (cI, 511, .inl R0)), (r1, .inl (cI, 511, .inl R1)), (r2, .inl (cI, 511, .inl R2))] ∧ amb tP sa (va_A [(xo, .inr (2, [.int (nI k), .ref ra, .ref rb, .int (nI rs), .ref sm, .ref hh, .ref ps, .ref pb])), (hh, .inr (0, [.ref lf, .ref rt, .ref rp])), (lf, .inl (cJ, 512, .inr (.inl (fun j => lI (FL j))))), (rt, .inl (cJ, 512, .inr (.inl (fun j => lI (FR j))))), (rp, .inl (cJ, 256, .inr (.inl (fun j => lI (FP j))))), (ra, .inl (cI, 256, .inl fA)), (rb, .inl (cI, 256, .inl fB)), (sm, .inr (1, [.ref so])), (so, .inl (cO, 3, .inr (.inr (.inr (.inr g))))), (r0, .inl (cI, 511, .inl R0)), (r1, .inl (cI, 511, .inl R1)), (r2, .inl (cI, 511, .inl R2))] sz) U U.heap)) (q_X3_fold_0 dC dI xo ra rb sm hh ps pb k rs cI cJ cO lf rt rp so r0 r1 r2 g fA fB R0 R1 R2 FL FR FP (va_A [(xo, .inr (2, [.int (nI k), .ref ra, .ref rb, .int (nI rs), .ref sm, .ref hh, .ref ps, .ref pb])), (hh, .inr (0, [.ref lf, .ref rt, .ref rp])), (lf, .inl (cJ, 512, .inr (.inl (fun j => lI (FL j))))), (rt, .inl (cJ, 512, .inr (.inl (fun j => lI (FR j))))), (rp, .inl (cJ, 256, .inr (.inl (fun j => lI (FP j))))), (ra, .inl (cI, 256, .inl fA)), (rb, .inl (cI, 256, .inl fB)), (sm, .inr (1, [.ref so])), (so, .inl (cO, 3, .inr (.inr (.inr (.inr g))))), (r0, .inl (cI, 511, .inl R0)), (r1, .inl (cI, 511, .inl R1)), (r2, .inl (cI, 511, .inl R2))] sz)) 0 0 (va_A [(xo, .inr (2, [.int (nI k), .ref ra, .ref rb, .int (nI rs), .ref sm, .ref hh, .ref ps, .ref pb])), (hh, .inr (0, [.ref lf, .ref rt, .ref rp])), (lf, .inl (cJ, 512, .inr (.inl (fun j => lI (FL j))))), (rt, .inl (cJ, 512, .inr (.inl (fun j => lI (FR j))))), (rp, .inl (cJ, 256, .inr (.inl (fun j => lI (FP j))))), (ra, .inl (cI, 256, .inl fA)), (rb, .inl (cI, 256, .inl fB)), (sm, .inr (1, [.ref so])), (so, .inl (cO, 3, .inr (.inr (.inr (.inr g))))), (r0, .inl (cI, 511, .inl R0)), (r1, .inl (cI, 511, .inl R1)), (r2, .inl (cI, 511, .inl R2))] sz) := by
  refine Met.ofW (cc := cX3_fold) (maxL := 2) (ret := (some .int)) (by decide) rfl ?_
  intro p e s m args below meth c s₁ B hml hv
  obtain ⟨rfl, hsz, hP, hK, hD0, hM⟩ := hv
  have hx := B.exec
  have hb := B.bytes
  have hr := B.returns
  have hts := atoms_spec (ws := wsX3_fold) B.pre
  have hown : s.vm.findClass RX3 = some m.cls := findClass_of_methodNamed B.named
  have hlocks := B.notSynchronized
  subst hsz
  have hD := hD0.self (sz := s.heap.size)
  generalize hAe : va_A [(xo, .inr (2, [.int (nI k), .ref ra, .ref rb, .int (nI rs), .ref sm, .ref hh, .ref ps, .ref pb])), (hh, .inr (0, [.ref lf, .ref rt, .ref rp])), (lf, .inl (cJ, 512, .inr (.inl (fun j => lI (FL j))))), (rt, .inl (cJ, 512, .inr (.inl (fun j => lI (FR j))))), (rp, .inl (cJ, 256, .inr (.inl (fun j => lI (FP j))))), (ra, .inl (cI, 256, .inl fA)), (rb, .inl (cI, 256, .inl fB)), (sm, .inr (1, [.ref so])), (so, .inl (cO, 3, .inr (.inr (.inr (.inr g))))), (r0, .inl (cI, 511, .inl R0)), (r1, .inl (cI, 511, .inl R1)), (r2, .inl (cI, 511, .inl R2))] s.heap.size = A at hD hM ⊢
  have hA : ∀ q : Nat, s.heap.size ≤ q → A q := fun q h => by rw [← hAe]; exact Or.inr h
  have hS : va_S A s.heap s.heap [] := va_S.rf
  have hP : va_P (dC, dI) vwCl [(xo, .inr (2, [.int (nI k), .ref ra, .ref rb, .int (nI rs), .ref sm, .ref hh, .ref ps, .ref pb])), (hh, .inr (0, [.ref lf, .ref rt, .ref rp])), (lf, .inl (cJ, 512, .inr (.inl (fun j => lI (FL j))))), (rt, .inl (cJ, 512, .inr (.inl (fun j => lI (FR j))))), (rp, .inl (cJ, 256, .inr (.inl (fun j => lI (FP j))))), (ra, .inl (cI, 256, .inl fA)), (rb, .inl (cI, 256, .inl fB)), (sm, .inr (1, [.ref so])), (so, .inl (cO, 3, .inr (.inr (.inr (.inr g))))), (r0, .inl (cI, 511, .inl R0)), (r1, .inl (cI, 511, .inl R1)), (r2, .inl (cI, 511, .inl R2))] s.heap := hP
  have hl := lv_entry (([.ref xo, .int (nI 0)] : List Value)) (n := 2) (Nat.le_of_ble_eq_true rfl)
  rw [lg_entry_eq]
  generalize (lg_sl (([.ref xo, .int (nI 0)] : List Value)) ++ List.replicate (2 - (lg_sl (([.ref xo, .int (nI 0)] : List Value))).length) Slot.unset).toArray = ls at hl ⊢
  have hl : lv_has ls 2 [(0, .ref xo), (1, .int (nI 0))] := hl
  obtain ⟨H, hHe⟩ : ∃ H : Heap, H = s.heap := ⟨_, rfl⟩
  rw [← hHe] at hP
  have hS : va_S A s.heap H [] := by rw [hHe]; exact hS
  obtain ⟨locs, hlo⟩ : ∃ L : List Loc, L = [] := ⟨_, rfl⟩
  rw [← hlo] at hS ⊢
  rw [← hHe]
  have hpk := pw8 zk
  have hcd : cntK 0 k = 2 ^ k := rfl
  refine lv_iload_n hx hb dX3_fold_0 rfl (lv_at hl 1 rfl) ?_
  refine lv_if_lt (tgt := 9) hx hb dX3_fold_1 (by decide) (fun c_1 => ?_) (fun c_1 => ?_)
  · have c_1 : 0 < 0 := (nI_ltI (a := 0) (b := 0) (by omega) (by omega)).mp c_1
    omega
  · have c_1 : ¬ (0 < 0) := fun zq9 => c_1 ((nI_ltI (a := 0) (b := 0) (by omega) (by omega)).mpr zq9)
    refine lv_iload_n hx hb dX3_fold_4 rfl (lv_at hl 1 rfl) ?_
    refine lv_iconst (v := nI 2) hx hb dX3_fold_5 (by decide) ?_
    refine lv_icmp_le (tgt := 19) hx hb dX3_fold_6 (by decide) (fun c_2 => ?_) (fun c_2 => ?_)
    · have c_2 : 0 ≤ 2 := (nI_leI (a := 0) (b := 2) (by omega) (by omega)).mp c_2
      refine lv_aload_n hx hb dX3_fold_19 rfl (lv_at hl 0 rfl) ?_
      refine va_get (D := (dC, dI)) (ci := 2) (v := .ref hh) (C := RX3) (T := TX3) (N := 8) hx hb hts (by decide +kernel) hown hK hP 0 rfl rfl 5 (by decide) (hts (.fieldLink RX3 35 "ThreePrimes" "folder" "LThreePrimes$Folder;") (by decide +kernel)) (fun _ h9 => h9) rfl dX3_fold_20 ?_
      refine lv_aload_n hx hb dX3_fold_23 rfl (lv_at hl 0 rfl) ?_
      refine va_get (D := (dC, dI)) (ci := 2) (v := .ref ra) (C := RX3) (T := TX3) (N := 8) hx hb hts (by decide +kernel) hown hK hP 0 rfl rfl 1 (by decide) (hts (.fieldLink RX3 13 "ThreePrimes" "rowA" "[I") (by decide +kernel)) (fun _ h9 => h9) rfl dX3_fold_24 ?_
      refine lv_aload_n hx hb dX3_fold_27 rfl (lv_at hl 0 rfl) ?_
      refine va_get (D := (dC, dI)) (ci := 2) (v := .ref rb) (C := RX3) (T := TX3) (N := 8) hx hb hts (by decide +kernel) hown hK hP 0 rfl rfl 2 (by decide) (hts (.fieldLink RX3 17 "ThreePrimes" "rowB" "[I") (by decide +kernel)) (fun _ h9 => h9) rfl dX3_fold_28 ?_
      refine lv_aload_n hx hb dX3_fold_31 rfl (lv_at hl 0 rfl) ?_
      refine va_get (D := (dC, dI)) (ci := 2) (v := .int (nI k)) (C := RX3) (T := TX3) (N := 8) hx hb hts (by decide +kernel) hown hK hP 0 rfl rfl 0 (by decide) (hts (.fieldLink RX3 9 "ThreePrimes" "levels" "I") (by decide +kernel)) (fun _ h9 => h9) rfl dX3_fold_32 ?_
      refine lv_iload_n hx hb dX3_fold_35 rfl (lv_at hl 1 rfl) ?_
      refine lv_aload_n hx hb dX3_fold_36 rfl (lv_at hl 0 rfl) ?_
      refine va_get (D := (dC, dI)) (ci := 2) (v := .ref sm) (C := RX3) (T := TX3) (N := 8) hx hb hts (by decide +kernel) hown hK hP 0 rfl rfl 4 (by decide) (hts (.fieldLink RX3 28 "ThreePrimes" "sums" "LThreePrimes$Sums;") (by decide +kernel)) (fun _ h9 => h9) rfl dX3_fold_37 ?_
      have hPc := hP.sub (ws' := [(hh, .inr (0, [.ref lf, .ref rt, .ref rp])), (lf, .inl (cJ, 512, .inr (.inl (fun j => lI (FL j))))), (rt, .inl (cJ, 512, .inr (.inl (fun j => lI (FR j))))), (rp, .inl (cJ, 256, .inr (.inl (fun j => lI (FP j))))), (ra, .inl (cI, 256, .inl fA)), (rb, .inl (cI, 256, .inl fB)), (sm, .inr (1, [.ref so])), (so, .inl (cO, 3, .inr (.inr (.inr (.inr g))))), (r0, .inl (cI, 511, .inl R0)), (r1, .inl (cI, 511, .inl R1)), (r2, .inl (cI, 511, .inl R2))]) [1, 2, 3, 4, 5, 6, 7, 8, 9, 10, 11] rfl
      have hDc := hD.sub (ws' := [(hh, .inr (0, [.ref lf, .ref rt, .ref rp])), (lf, .inl (cJ, 512, .inr (.inl (fun j => lI (FL j))))), (rt, .inl (cJ, 512, .inr (.inl (fun j => lI (FR j))))), (rp, .inl (cJ, 256, .inr (.inl (fun j => lI (FP j))))), (ra, .inl (cI, 256, .inl fA)), (rb, .inl (cI, 256, .inl fB)), (sm, .inr (1, [.ref so])), (so, .inl (cO, 3, .inr (.inr (.inr (.inr g))))), (r0, .inl (cI, 511, .inl R0)), (r1, .inl (cI, 511, .inl R1)), (r2, .inl (cI, 511, .inl R2))]) [1, 2, 3, 4, 5, 6, 7, 8, 9, 10, 11] (by decide) rfl
      have hKc := hK.sub (tys' := [(cI, .int), (cJ, .long), (cO, .array .int)]) [0, 1, 2] rfl
      have hFc := va_free (wc := [(hh, .inr (0, [.ref lf, .ref rt, .ref rp])), (lf, .inl (cJ, 512, .inr (.inl (fun j => lI (FL j))))), (rt, .inl (cJ, 512, .inr (.inl (fun j => lI (FR j))))), (rp, .inl (cJ, 256, .inr (.inl (fun j => lI (FP j))))), (ra, .inl (cI, 256, .inl fA)), (rb, .inl (cI, 256, .inl fB)), (sm, .inr (1, [.ref so])), (so, .inl (cO, 3, .inr (.inr (.inr (.inr g))))), (r0, .inl (cI, 511, .inl R0)), (r1, .inl (cI, 511, .inl R1)), (r2, .inl (cI, 511, .inl R2))]) hD hS hA [1, 2, 3, 4, 5, 6, 7, 8, 9, 10, 11] rfl
      refine va_callv (va_runV (As := [.ref ra, .ref rb, .int (nI k), .int (nI 0), .ref sm]) (rest := []) ⟨hx, hb, hml, hown, hts⟩ (c_X0_foldRows_0 l dC dI cI cJ cO hh lf rt rp ra rb sm so r0 r1 r2 g fA fB R0 R1 R2 FL FR FP 511 k H.size tP sa hg0 hg1 hg2 (by omega) (by omega) (by rw [hcd]; omega) (by omega)) (cwV 5 hts gX3_fold_X0_foldRows rfl rfl rfl (by decide +kernel) ⟨Nat.le_of_ble_eq_true rfl, Nat.le_of_ble_eq_true rfl⟩) ⟨fun a U g mk q => by obtain ⟨q0, q1, qP, qK, qD, qM⟩ := q; exact ⟨q0, q1, qP, va_K.moved (u := U) (U := U.calling g mk a) (Vm.Alike.refl U.vm) qK, qD, amb_same (U := U) (U' := U.calling g mk a) rfl rfl qM⟩, va_recv hKc hPc (ci := 0) (q0 := 0) rfl rfl, fun U hU hW => ⟨rfl, by rw [hU], by rw [hU]; exact hPc, va_K.moved hW.alike hKc, hDc.weaken (fun _ _ _ _ => trivial), amb_pass hM hS hFc hW hU⟩⟩ rfl rfl hl.1 rfl (lv_room (Nat.le_of_ble_eq_true rfl)) dX3_fold_40 ⟨Nat.le_of_ble_eq_true rfl, Nat.le_of_ble_eq_true rfl⟩) hS (fun q _ h => hFc q h) hFc (fun u9 t9 H1 locs ht hvm hw hB hz1 hk1 hS => ?_)
      obtain ⟨ua_3, ub_4, uc_5⟩ := u9
      obtain ⟨hP1, hD1⟩ := hB
      dsimp only at hP1 hD1
      rw [ht] at hP1
      try dsimp only at hw
      obtain ⟨hP, hD⟩ := va_join (wr := [(xo, .inr (2, [.int (nI k), .ref ra, .ref rb, .int (nI rs), .ref sm, .ref hh, .ref ps, .ref pb]))]) (w1 := [(hh, .inr (0, [.ref lf, .ref rt, .ref rp])), (lf, .inl (cJ, 512, .inr (.inl (fun j => lI ((ua_3 3) j))))), (rt, .inl (cJ, 512, .inr (.inl (fun j => lI ((ub_4 3) j))))), (rp, .inl (cJ, 256, .inr (.inl (fun j => lI ((uc_5 3) j))))), (ra, .inl (cI, 256, .inl fA)), (rb, .inl (cI, 256, .inl fB)), (sm, .inr (1, [.ref so])), (so, .inl (cO, 3, .inr (.inr (.inr (.inr g))))), (r0, .inl (cI, 511, .inl (stR R0 (fdq 0 fA fB (ua_3 0) (ub_4 0) (uc_5 0) k 998244353) (cntK 0 k)))), (r1, .inl (cI, 511, .inl (stR R1 (fdq 0 fA fB (ua_3 1) (ub_4 1) (uc_5 1) k 167772161) (cntK 0 k)))), (r2, .inl (cI, 511, .inl (stR R2 (fdq 0 fA fB (ua_3 2) (ub_4 2) (uc_5 2) k 469762049) (cntK 0 k))))]) hP hD [1, 2, 3, 4, 5, 6, 7, 8, 9, 10, 11] [0] rfl rfl (by decide) (by decide) hk1 hFc hP1 hD1
      generalize H1 = H at hP hS ⊢
      have hP : va_P (dC, dI) vwCl [(xo, .inr (2, [.int (nI k), .ref ra, .ref rb, .int (nI rs), .ref sm, .ref hh, .ref ps, .ref pb])), (hh, .inr (0, [.ref lf, .ref rt, .ref rp])), (lf, .inl (cJ, 512, .inr (.inl (fun j => lI ((ua_3 3) j))))), (rt, .inl (cJ, 512, .inr (.inl (fun j => lI ((ub_4 3) j))))), (rp, .inl (cJ, 256, .inr (.inl (fun j => lI ((uc_5 3) j))))), (ra, .inl (cI, 256, .inl fA)), (rb, .inl (cI, 256, .inl fB)), (sm, .inr (1, [.ref so])), (so, .inl (cO, 3, .inr (.inr (.inr (.inr g))))), (r0, .inl (cI, 511, .inl (stR R0 (fdq 0 fA fB (ua_3 0) (ub_4 0) (uc_5 0) k 998244353) (cntK 0 k)))), (r1, .inl (cI, 511, .inl (stR R1 (fdq 0 fA fB (ua_3 1) (ub_4 1) (uc_5 1) k 167772161) (cntK 0 k)))), (r2, .inl (cI, 511, .inl (stR R2 (fdq 0 fA fB (ua_3 2) (ub_4 2) (uc_5 2) k 469762049) (cntK 0 k))))] H := hP
      have hD : va_D A [(xo, .inr (2, [.int (nI k), .ref ra, .ref rb, .int (nI rs), .ref sm, .ref hh, .ref ps, .ref pb])), (hh, .inr (0, [.ref lf, .ref rt, .ref rp])), (lf, .inl (cJ, 512, .inr (.inl (fun j => lI ((ua_3 3) j))))), (rt, .inl (cJ, 512, .inr (.inl (fun j => lI ((ub_4 3) j))))), (rp, .inl (cJ, 256, .inr (.inl (fun j => lI ((uc_5 3) j))))), (ra, .inl (cI, 256, .inl fA)), (rb, .inl (cI, 256, .inl fB)), (sm, .inr (1, [.ref so])), (so, .inl (cO, 3, .inr (.inr (.inr (.inr g))))), (r0, .inl (cI, 511, .inl (stR R0 (fdq 0 fA fB (ua_3 0) (ub_4 0) (uc_5 0) k 998244353) (cntK 0 k)))), (r1, .inl (cI, 511, .inl (stR R1 (fdq 0 fA fB (ua_3 1) (ub_4 1) (uc_5 1) k 167772161) (cntK 0 k)))), (r2, .inl (cI, 511, .inl (stR R2 (fdq 0 fA fB (ua_3 2) (ub_4 2) (uc_5 2) k 469762049) (cntK 0 k))))] := hD
      clear hPc hDc hKc hFc hP1 hD1 hk1 hz1 hvm ht
      clear hw
      refine lv_aload_n hx hb dX3_fold_43 rfl (lv_at hl 0 rfl) ?_
      refine lv_iload_n hx hb dX3_fold_44 rfl (lv_at hl 1 rfl) ?_
      refine lv_iconst (v := nI 2) hx hb dX3_fold_45 (by decide) ?_
      refine lv_icmp_ne (tgt := 60) hx hb dX3_fold_46 (by decide) (fun c_6 => ?_) (fun c_6 => ?_)
      · have c_6 : ¬ (0 = 2) := fun zq9 => c_6 ((nI_eq (a := 0) (b := 2) (by omega) (by omega)).mpr zq9)
        refine lv_aload_n hx hb dX3_fold_60 rfl (lv_at hl 0 rfl) ?_
        have hPc := hP.sub (ws' := [(xo, .inr (2, [.int (nI k), .ref ra, .ref rb, .int (nI rs), .ref sm, .ref hh, .ref ps, .ref pb]))]) [0] rfl
        have hDc := hD.sub (ws' := [(xo, .inr (2, [.int (nI k), .ref ra, .ref rb, .int (nI rs), .ref sm, .ref hh, .ref ps, .ref pb]))]) [0] (by decide) rfl
        have hKc := hK.sub (tys' := []) [] rfl
        have hFc := va_free (wc := [(xo, .inr (2, [.int (nI k), .ref ra, .ref rb, .int (nI rs), .ref sm, .ref hh, .ref ps, .ref pb]))]) hD hS hA [0] rfl
        refine va_calli (va_runV (As := []) (rest := [.ref xo]) ⟨hx, hb, hml, hown, hts⟩ (c_X3_places l dC dI xo ra rb sm hh ps pb k rs H.size (by omega) (by omega)) (cwV 0 hts gX3_fold_X3_places rfl rfl rfl (by decide +kernel) ⟨Nat.le_of_ble_eq_true rfl, Nat.le_of_ble_eq_true rfl⟩) ⟨fun a U g mk q => by obtain ⟨q0, q1, qP, qK, qD⟩ := q; exact ⟨q0, q1, qP, va_K.moved (u := U) (U := U.calling g mk a) (Vm.Alike.refl U.vm) qK, qD⟩, va_recv hKc hPc (ci := 2) (q0 := 0) rfl rfl, fun U hU hW => ⟨rfl, by rw [hU], by rw [hU]; exact hPc, va_K.moved hW.alike hKc, hDc.weaken (fun _ _ _ _ => trivial)⟩⟩ rfl rfl hl.1 rfl (lv_room (Nat.le_of_ble_eq_true rfl)) dX3_fold_61 ⟨Nat.le_of_ble_eq_true rfl, Nat.le_of_ble_eq_true rfl⟩) hS (fun q _ h => hFc q h) hFc (fun r9 u9 t9 H1 locs ht hvm hw hB hz1 hk1 hS => ?_)
        obtain ⟨hP1, hD1⟩ := hB
        rw [ht] at hP1
        try dsimp only at hw
        obtain ⟨hP, hD⟩ := va_join (wr := [(hh, .inr (0, [.ref lf, .ref rt, .ref rp])), (lf, .inl (cJ, 512, .inr (.inl (fun j => lI ((ua_3 3) j))))), (rt, .inl (cJ, 512, .inr (.inl (fun j => lI ((ub_4 3) j))))), (rp, .inl (cJ, 256, .inr (.inl (fun j => lI ((uc_5 3) j))))), (ra, .inl (cI, 256, .inl fA)), (rb, .inl (cI, 256, .inl fB)), (sm, .inr (1, [.ref so])), (so, .inl (cO, 3, .inr (.inr (.inr (.inr g))))), (r0, .inl (cI, 511, .inl (stR R0 (fdq 0 fA fB (ua_3 0) (ub_4 0) (uc_5 0) k 998244353) (cntK 0 k)))), (r1, .inl (cI, 511, .inl (stR R1 (fdq 0 fA fB (ua_3 1) (ub_4 1) (uc_5 1) k 167772161) (cntK 0 k)))), (r2, .inl (cI, 511, .inl (stR R2 (fdq 0 fA fB (ua_3 2) (ub_4 2) (uc_5 2) k 469762049) (cntK 0 k))))]) (w1 := [(xo, .inr (2, [.int (nI k), .ref ra, .ref rb, .int (nI rs), .ref sm, .ref hh, .ref ps, .ref pb]))]) hP hD [0] [1, 2, 3, 4, 5, 6, 7, 8, 9, 10, 11] rfl rfl (by decide) (by decide) hk1 hFc hP1 hD1
        generalize H1 = H at hP hS ⊢
        have hP : va_P (dC, dI) vwCl [(hh, .inr (0, [.ref lf, .ref rt, .ref rp])), (lf, .inl (cJ, 512, .inr (.inl (fun j => lI ((ua_3 3) j))))), (rt, .inl (cJ, 512, .inr (.inl (fun j => lI ((ub_4 3) j))))), (rp, .inl (cJ, 256, .inr (.inl (fun j => lI ((uc_5 3) j))))), (ra, .inl (cI, 256, .inl fA)), (rb, .inl (cI, 256, .inl fB)), (sm, .inr (1, [.ref so])), (so, .inl (cO, 3, .inr (.inr (.inr (.inr g))))), (r0, .inl (cI, 511, .inl (stR R0 (fdq 0 fA fB (ua_3 0) (ub_4 0) (uc_5 0) k 998244353) (cntK 0 k)))), (r1, .inl (cI, 511, .inl (stR R1 (fdq 0 fA fB (ua_3 1) (ub_4 1) (uc_5 1) k 167772161) (cntK 0 k)))), (r2, .inl (cI, 511, .inl (stR R2 (fdq 0 fA fB (ua_3 2) (ub_4 2) (uc_5 2) k 469762049) (cntK 0 k)))), (xo, .inr (2, [.int (nI k), .ref ra, .ref rb, .int (nI rs), .ref sm, .ref hh, .ref ps, .ref pb]))] H := hP
        have hD : va_D A [(hh, .inr (0, [.ref lf, .ref rt, .ref rp])), (lf, .inl (cJ, 512, .inr (.inl (fun j => lI ((ua_3 3) j))))), (rt, .inl (cJ, 512, .inr (.inl (fun j => lI ((ub_4 3) j))))), (rp, .inl (cJ, 256, .inr (.inl (fun j => lI ((uc_5 3) j))))), (ra, .inl (cI, 256, .inl fA)), (rb, .inl (cI, 256, .inl fB)), (sm, .inr (1, [.ref so])), (so, .inl (cO, 3, .inr (.inr (.inr (.inr g))))), (r0, .inl (cI, 511, .inl (stR R0 (fdq 0 fA fB (ua_3 0) (ub_4 0) (uc_5 0) k 998244353) (cntK 0 k)))), (r1, .inl (cI, 511, .inl (stR R1 (fdq 0 fA fB (ua_3 1) (ub_4 1) (uc_5 1) k 167772161) (cntK 0 k)))), (r2, .inl (cI, 511, .inl (stR R2 (fdq 0 fA fB (ua_3 2) (ub_4 2) (uc_5 2) k 469762049) (cntK 0 k)))), (xo, .inr (2, [.int (nI k), .ref ra, .ref rb, .int (nI rs), .ref sm, .ref hh, .ref ps, .ref pb]))] := hD
        clear hPc hDc hKc hFc hP1 hD1 hk1 hz1 hvm ht
        subst hw
        refine va_put (D := (dC, dI)) (ci := 2) (v := .int (nI (2 ^ k))) (ty := .int) (C := RX3) (T := TX3) (N := 8) hx hb hts (by decide +kernel) tyX3 tyX3_ok nmX3 hown hK hP hD hS 11 rfl rfl 3 (by decide) (hts (.fieldLink RX3 20 "ThreePrimes" "results" "I") (by decide +kernel)) (fun _ h9 => h9) rfl (by decide +kernel) rfl rfl (Nat.le_of_ble_eq_true rfl) dX3_fold_64 (fun H locs hP hD hS => ?_)
        have hP : va_P (dC, dI) vwCl [(hh, .inr (0, [.ref lf, .ref rt, .ref rp])), (lf, .inl (cJ, 512, .inr (.inl (fun j => lI ((ua_3 3) j))))), (rt, .inl (cJ, 512, .inr (.inl (fun j => lI ((ub_4 3) j))))), (rp, .inl (cJ, 256, .inr (.inl (fun j => lI ((uc_5 3) j))))), (ra, .inl (cI, 256, .inl fA)), (rb, .inl (cI, 256, .inl fB)), (sm, .inr (1, [.ref so])), (so, .inl (cO, 3, .inr (.inr (.inr (.inr g))))), (r0, .inl (cI, 511, .inl (stR R0 (fdq 0 fA fB (ua_3 0) (ub_4 0) (uc_5 0) k 998244353) (cntK 0 k)))), (r1, .inl (cI, 511, .inl (stR R1 (fdq 0 fA fB (ua_3 1) (ub_4 1) (uc_5 1) k 167772161) (cntK 0 k)))), (r2, .inl (cI, 511, .inl (stR R2 (fdq 0 fA fB (ua_3 2) (ub_4 2) (uc_5 2) k 469762049) (cntK 0 k)))), (xo, .inr (2, [.int (nI k), .ref ra, .ref rb, .int (nI (2 ^ k)), .ref sm, .ref hh, .ref ps, .ref pb]))] H := hP
        have hD : va_D A [(hh, .inr (0, [.ref lf, .ref rt, .ref rp])), (lf, .inl (cJ, 512, .inr (.inl (fun j => lI ((ua_3 3) j))))), (rt, .inl (cJ, 512, .inr (.inl (fun j => lI ((ub_4 3) j))))), (rp, .inl (cJ, 256, .inr (.inl (fun j => lI ((uc_5 3) j))))), (ra, .inl (cI, 256, .inl fA)), (rb, .inl (cI, 256, .inl fB)), (sm, .inr (1, [.ref so])), (so, .inl (cO, 3, .inr (.inr (.inr (.inr g))))), (r0, .inl (cI, 511, .inl (stR R0 (fdq 0 fA fB (ua_3 0) (ub_4 0) (uc_5 0) k 998244353) (cntK 0 k)))), (r1, .inl (cI, 511, .inl (stR R1 (fdq 0 fA fB (ua_3 1) (ub_4 1) (uc_5 1) k 167772161) (cntK 0 k)))), (r2, .inl (cI, 511, .inl (stR R2 (fdq 0 fA fB (ua_3 2) (ub_4 2) (uc_5 2) k 469762049) (cntK 0 k)))), (xo, .inr (2, [.int (nI k), .ref ra, .ref rb, .int (nI (2 ^ k)), .ref sm, .ref hh, .ref ps, .ref pb]))] := hD
        refine lv_aload_n hx hb dX3_fold_67 rfl (lv_at hl 0 rfl) ?_
        refine va_get (D := (dC, dI)) (ci := 2) (v := .int (nI (2 ^ k))) (C := RX3) (T := TX3) (N := 8) hx hb hts (by decide +kernel) hown hK hP 11 rfl rfl 3 (by decide) (hts (.fieldLink RX3 20 "ThreePrimes" "results" "I") (by decide +kernel)) (fun _ h9 => h9) rfl dX3_fold_68 ?_
        have hP9 : va_P (dC, dI) vwCl [(xo, .inr (2, [.int (nI k), .ref ra, .ref rb, .int (nI (cntK 0 k)), .ref sm, .ref hh, .ref ps, .ref pb])), (hh, .inr (0, [.ref lf, .ref rt, .ref rp])), (lf, .inl (cJ, 512, .inr (.inl (fun j => lI ((ua_3 3) j))))), (rt, .inl (cJ, 512, .inr (.inl (fun j => lI ((ub_4 3) j))))), (rp, .inl (cJ, 256, .inr (.inl (fun j => lI ((uc_5 3) j))))), (ra, .inl (cI, 256, .inl fA)), (rb, .inl (cI, 256, .inl fB)), (sm, .inr (1, [.ref so])), (so, .inl (cO, 3, .inr (.inr (.inr (.inr g))))), (r0, .inl (cI, 511, .inl (stR R0 (fdq 0 fA fB (ua_3 0) (ub_4 0) (uc_5 0) k 998244353) (cntK 0 k)))), (r1, .inl (cI, 511, .inl (stR R1 (fdq 0 fA fB (ua_3 1) (ub_4 1) (uc_5 1) k 167772161) (cntK 0 k)))), (r2, .inl (cI, 511, .inl (stR R2 (fdq 0 fA fB (ua_3 2) (ub_4 2) (uc_5 2) k 469762049) (cntK 0 k))))] H := hP.sub [11, 0, 1, 2, 3, 4, 5, 6, 7, 8, 9, 10] rfl
        have hD9 : va_D A [(xo, .inr (2, [.int (nI k), .ref ra, .ref rb, .int (nI (cntK 0 k)), .ref sm, .ref hh, .ref ps, .ref pb])), (hh, .inr (0, [.ref lf, .ref rt, .ref rp])), (lf, .inl (cJ, 512, .inr (.inl (fun j => lI ((ua_3 3) j))))), (rt, .inl (cJ, 512, .inr (.inl (fun j => lI ((ub_4 3) j))))), (rp, .inl (cJ, 256, .inr (.inl (fun j => lI ((uc_5 3) j))))), (ra, .inl (cI, 256, .inl fA)), (rb, .inl (cI, 256, .inl fB)), (sm, .inr (1, [.ref so])), (so, .inl (cO, 3, .inr (.inr (.inr (.inr g))))), (r0, .inl (cI, 511, .inl (stR R0 (fdq 0 fA fB (ua_3 0) (ub_4 0) (uc_5 0) k 998244353) (cntK 0 k)))), (r1, .inl (cI, 511, .inl (stR R1 (fdq 0 fA fB (ua_3 1) (ub_4 1) (uc_5 1) k 167772161) (cntK 0 k)))), (r2, .inl (cI, 511, .inl (stR R2 (fdq 0 fA fB (ua_3 2) (ub_4 2) (uc_5 2) k 469762049) (cntK 0 k))))] := hD.sub [11, 0, 1, 2, 3, 4, 5, 6, 7, 8, 9, 10] (by decide) rfl
        exact W.iret (v := nI (2 ^ k)) hx hb hr (fun t ht hW => ⟨⟨nI (2 ^ k), (ua_3, ub_4, uc_5), rfl, rfl, by rw [ht]; exact hP9, hD9⟩, hS.F ht⟩) hS.2.2 dX3_fold_71
      · have c_6 : 0 = 2 := (nI_eq (a := 0) (b := 2) (by omega) (by omega)).mp c_6
        omega
    · have c_2 : ¬ (0 ≤ 2) := fun zq9 => c_2 ((nI_leI (a := 0) (b := 2) (by omega) (by omega)).mpr zq9)
      omega

abbrev q_X3_fold_1 (dC : Nat → ClassId) (dI : Nat → Nat → Nat) (xo ra rb sm hh ps pb k rs : Nat) (cI cJ cO : ClassId) (lf rt rp so r0 r1 r2 : Nat) (g : Nat → Option Nat) (fA fB R0 R1 R2 : Nat → Int32) (FL FR FP : Nat → Int) (A : Nat → Prop) : Array Value → State → Outcome → State → Prop := va_Qi (fun (r : Int32) (u : Grb) => r = nI (cntK 1 k)) (fun u t => va_P (dC, dI) vwCl [(xo, .inr (2, [.int (nI k), .ref ra, .ref rb, .int (nI (cntK 1 k)), .ref sm, .ref hh, .ref ps, .ref pb])), (hh, .inr (0, [.ref lf, .ref rt, .ref rp])), (lf, .inl (cJ, 512, .inr (.inl (fun j => lI ((u.1 3) j))))), (rt, .inl (cJ, 512, .inr (.inl (fun j => lI ((u.2.1 3) j))))), (rp, .inl (cJ, 256, .inr (.inl (fun j => lI ((u.2.2 3) j))))), (ra, .inl (cI, 256, .inl fA)), (rb, .inl (cI, 256, .inl fB)), (sm, .inr (1, [.ref so])), (so, .inl (cO, 3, .inr (.inr (.inr (.inr g))))), (r0, .inl (cI, 511, .inl (stR R0 (fdq 1 fA fB (u.1 0) (u.2.1 0) (u.2.2 0) k 998244353) (cntK 1 k)))), (r1, .inl (cI, 511, .inl (stR R1 (fdq 1 fA fB (u.1 1) (u.2.1 1) (u.2.2 1) k 167772161) (cntK 1 k)))), (r2, .inl (cI, 511, .inl (stR R2 (fdq 1 fA fB (u.1 2) (u.2.1 2) (u.2.2 2) k 469762049) (cntK 1 k))))] t.heap ∧ va_D A [(xo, .inr (2, [.int (nI k), .ref ra, .ref rb, .int (nI (cntK 1 k)), .ref sm, .ref hh, .ref ps, .ref pb])), (hh, .inr (0, [.ref lf, .ref rt, .ref rp])), (lf, .inl (cJ, 512, .inr (.inl (fun j => lI ((u.1 3) j))))), (rt, .inl (cJ, 512, .inr (.inl (fun j => lI ((u.2.1 3) j))))), (rp, .inl (cJ, 256, .inr (.inl (fun j => lI ((u.2.2 3) j))))), (ra, .inl (cI, 256, .inl fA)), (rb, .inl (cI, 256, .inl fB)), (sm, .inr (1, [.ref so])), (so, .inl (cO, 3, .inr (.inr (.inr (.inr g))))), (r0, .inl (cI, 511, .inl (stR R0 (fdq 1 fA fB (u.1 0) (u.2.1 0) (u.2.2 0) k 998244353) (cntK 1 k)))), (r1, .inl (cI, 511, .inl (stR R1 (fdq 1 fA fB (u.1 1) (u.2.1 1) (u.2.2 1) k 167772161) (cntK 1 k)))), (r2, .inl (cI, 511, .inl (stR R2 (fdq 1 fA fB (u.1 2) (u.2.1 2) (u.2.2 2) k 469762049) (cntK 1 k))))]) A
set_option maxHeartbeats 4000000 in
set_option maxRecDepth 100000 in
theorem c_X3_fold_1 (l : Launch) (dC : Nat → ClassId) (dI : Nat → Nat → Nat) (xo ra rb sm hh ps pb k rs : Nat) (cI cJ cO : ClassId) (lf rt rp so r0 r1 r2 : Nat) (g : Nat → Option Nat) (fA fB R0 R1 R2 : Nat → Int32) (FL FR FP : Nat → Int) (sz : Nat) (tP : Nat) (sa : Nat → Nat) (zk1 : 1 ≤ k) (zk : k ≤ 8) (hg0 : g 0 = some r0) (hg1 : g 1 = some r1) (hg2 : g 2 = some r2) : Met l yX3_fold wsX3_fold ({ frames := 5, cells := 0, slots := 0, locals := 132 }) (va_Pc [.ref xo, .int (nI 1)] (fun U => U.heap.size = sz ∧ va_P (dC, dI) vwCl [(xo, .inr (2, [.int (nI k), .ref ra, .ref rb, .int (nI rs), .ref sm, .ref hh, .ref ps, .ref pb])), (hh, .inr (0, [.ref lf, .ref rt, .ref rp])), (lf, .inl (cJ, 512, .inr (.inl (fun j => lI (FL j))))), (rt, .inl (cJ, 512, .inr (.inl (fun j => lI (FR j))))), (rp, .inl (cJ, 256, .inr (.inl (fun j => lI (FP j))))), (ra, .inl (cI, 256, .inl fA)), (rb, .inl (cI, 256, .inl fB)), (sm, .inr (1, [.ref so])), (so, .inl (cO, 3, .inr (.inr (.inr (.inr g))))), (r0, .inl (cI, 511, .inl R0)), (r1, .inl (cI, 511, .inl R1)), (r2, .inl (cI, 511, .inl R2))] U.heap ∧ va_K (dC, dI) vwCl [(cI, .int), (cJ, .long), (cO, .array .int)] U ∧ va_D (fun _ => True) [(xo, .inr (2, [.int (nI k), .ref ra, .ref rb, .int (nI rs), .ref sm, .ref hh, .ref ps, .ref pb])), (hh, .inr (0, [.ref lf, .ref rt, .ref rp])), (lf, .inl (cJ, 512, .inr (.inl (fun j => lI (FL j))))), (rt, .inl (cJ, 512, .inr (.inl (fun j => lI (FR j))))), (rp, .inl (cJ, 256, .inr (.inl (fun j => lI (FP j))))), (ra, .inl (cI, 256, .inl fA)), (rb, .inl (cI, 256, .inl fB)), (sm, .inr (1, [.ref so])), (so, .inl (cO, 3, .inr (.inr (.inr (.inr g))))), (r0, .inl (cI, 511, .inl R0)), (r1, .inl (cI, 511, .inl R1)), (r2, .inl (cI, 511, .inl R2))] ∧ amb tP sa (va_A [(xo, .inr (2, [.int (nI k), .ref ra, .ref rb, .int (nI rs), .ref sm, .ref hh, .ref ps, .ref pb])), (hh, .inr (0, [.ref lf, .ref rt, .ref rp])), (lf, .inl (cJ, 512, .inr (.inl (fun j => lI (FL j))))), (rt, .inl (cJ, 512, .inr (.inl (fun j => lI (FR j))))), (rp, .inl (cJ, 256, .inr (.inl (fun j => lI (FP j))))), (ra, .inl (cI, 256, .inl fA)), (rb, .inl (cI, 256, .inl fB)), (sm, .inr (1, [.ref so])), (so, .inl (cO, 3, .inr (.inr (.inr (.inr g))))), (r0, .inl (cI, 511, .inl R0)), (r1, .inl (cI, 511, .inl R1)), (r2, .inl (cI, 511, .inl R2))] sz) U U.heap)) (q_X3_fold_1 dC dI xo ra rb sm hh ps pb k rs cI cJ cO lf rt rp so r0 r1 r2 g fA fB R0 R1 R2 FL FR FP (va_A [(xo, .inr (2, [.int (nI k), .ref ra, .ref rb, .int (nI rs), .ref sm, .ref hh, .ref ps, .ref pb])), (hh, .inr (0, [.ref lf, .ref rt, .ref rp])), (lf, .inl (cJ, 512, .inr (.inl (fun j => lI (FL j))))), (rt, .inl (cJ, 512, .inr (.inl (fun j => lI (FR j))))), (rp, .inl (cJ, 256, .inr (.inl (fun j => lI (FP j))))), (ra, .inl (cI, 256, .inl fA)), (rb, .inl (cI, 256, .inl fB)), (sm, .inr (1, [.ref so])), (so, .inl (cO, 3, .inr (.inr (.inr (.inr g))))), (r0, .inl (cI, 511, .inl R0)), (r1, .inl (cI, 511, .inl R1)), (r2, .inl (cI, 511, .inl R2))] sz)) 0 0 (va_A [(xo, .inr (2, [.int (nI k), .ref ra, .ref rb, .int (nI rs), .ref sm, .ref hh, .ref ps, .ref pb])), (hh, .inr (0, [.ref lf, .ref rt, .ref rp])), (lf, .inl (cJ, 512, .inr (.inl (fun j => lI (FL j))))), (rt, .inl (cJ, 512, .inr (.inl (fun j => lI (FR j))))), (rp, .inl (cJ, 256, .inr (.inl (fun j => lI (FP j))))), (ra, .inl (cI, 256, .inl fA)), (rb, .inl (cI, 256, .inl fB)), (sm, .inr (1, [.ref so])), (so, .inl (cO, 3, .inr (.inr (.inr (.inr g))))), (r0, .inl (cI, 511, .inl R0)), (r1, .inl (cI, 511, .inl R1)), (r2, .inl (cI, 511, .inl R2))] sz) := by
  refine Met.ofW (cc := cX3_fold) (maxL := 2) (ret := (some .int)) (by decide) rfl ?_
  intro p e s m args below meth c s₁ B hml hv
  obtain ⟨rfl, hsz, hP, hK, hD0, hM⟩ := hv
  have hx := B.exec
  have hb := B.bytes
  have hr := B.returns
  have hts := atoms_spec (ws := wsX3_fold) B.pre
  have hown : s.vm.findClass RX3 = some m.cls := findClass_of_methodNamed B.named
  have hlocks := B.notSynchronized
  subst hsz
  have hD := hD0.self (sz := s.heap.size)
  generalize hAe : va_A [(xo, .inr (2, [.int (nI k), .ref ra, .ref rb, .int (nI rs), .ref sm, .ref hh, .ref ps, .ref pb])), (hh, .inr (0, [.ref lf, .ref rt, .ref rp])), (lf, .inl (cJ, 512, .inr (.inl (fun j => lI (FL j))))), (rt, .inl (cJ, 512, .inr (.inl (fun j => lI (FR j))))), (rp, .inl (cJ, 256, .inr (.inl (fun j => lI (FP j))))), (ra, .inl (cI, 256, .inl fA)), (rb, .inl (cI, 256, .inl fB)), (sm, .inr (1, [.ref so])), (so, .inl (cO, 3, .inr (.inr (.inr (.inr g))))), (r0, .inl (cI, 511, .inl R0)), (r1, .inl (cI, 511, .inl R1)), (r2, .inl (cI, 511, .inl R2))] s.heap.size = A at hD hM ⊢
  have hA : ∀ q : Nat, s.heap.size ≤ q → A q := fun q h => by rw [← hAe]; exact Or.inr h
  have hS : va_S A s.heap s.heap [] := va_S.rf
  have hP : va_P (dC, dI) vwCl [(xo, .inr (2, [.int (nI k), .ref ra, .ref rb, .int (nI rs), .ref sm, .ref hh, .ref ps, .ref pb])), (hh, .inr (0, [.ref lf, .ref rt, .ref rp])), (lf, .inl (cJ, 512, .inr (.inl (fun j => lI (FL j))))), (rt, .inl (cJ, 512, .inr (.inl (fun j => lI (FR j))))), (rp, .inl (cJ, 256, .inr (.inl (fun j => lI (FP j))))), (ra, .inl (cI, 256, .inl fA)), (rb, .inl (cI, 256, .inl fB)), (sm, .inr (1, [.ref so])), (so, .inl (cO, 3, .inr (.inr (.inr (.inr g))))), (r0, .inl (cI, 511, .inl R0)), (r1, .inl (cI, 511, .inl R1)), (r2, .inl (cI, 511, .inl R2))] s.heap := hP
  have hl := lv_entry (([.ref xo, .int (nI 1)] : List Value)) (n := 2) (Nat.le_of_ble_eq_true rfl)
  rw [lg_entry_eq]
  generalize (lg_sl (([.ref xo, .int (nI 1)] : List Value)) ++ List.replicate (2 - (lg_sl (([.ref xo, .int (nI 1)] : List Value))).length) Slot.unset).toArray = ls at hl ⊢
  have hl : lv_has ls 2 [(0, .ref xo), (1, .int (nI 1))] := hl
  obtain ⟨H, hHe⟩ : ∃ H : Heap, H = s.heap := ⟨_, rfl⟩
  rw [← hHe] at hP
  have hS : va_S A s.heap H [] := by rw [hHe]; exact hS
  obtain ⟨locs, hlo⟩ : ∃ L : List Loc, L = [] := ⟨_, rfl⟩
  rw [← hlo] at hS ⊢
  rw [← hHe]
  have hpk := pw8 zk
  have hcd : cntK 1 k = 2 ^ k := rfl
  refine lv_iload_n hx hb dX3_fold_0 rfl (lv_at hl 1 rfl) ?_
  refine lv_if_lt (tgt := 9) hx hb dX3_fold_1 (by decide) (fun c_1 => ?_) (fun c_1 => ?_)
  · have c_1 : 1 < 0 := (nI_ltI (a := 1) (b := 0) (by omega) (by omega)).mp c_1
    omega
  · have c_1 : ¬ (1 < 0) := fun zq9 => c_1 ((nI_ltI (a := 1) (b := 0) (by omega) (by omega)).mpr zq9)
    refine lv_iload_n hx hb dX3_fold_4 rfl (lv_at hl 1 rfl) ?_
    refine lv_iconst (v := nI 2) hx hb dX3_fold_5 (by decide) ?_
    refine lv_icmp_le (tgt := 19) hx hb dX3_fold_6 (by decide) (fun c_2 => ?_) (fun c_2 => ?_)
    · have c_2 : 1 ≤ 2 := (nI_leI (a := 1) (b := 2) (by omega) (by omega)).mp c_2
      refine lv_aload_n hx hb dX3_fold_19 rfl (lv_at hl 0 rfl) ?_
      refine va_get (D := (dC, dI)) (ci := 2) (v := .ref hh) (C := RX3) (T := TX3) (N := 8) hx hb hts (by decide +kernel) hown hK hP 0 rfl rfl 5 (by decide) (hts (.fieldLink RX3 35 "ThreePrimes" "folder" "LThreePrimes$Folder;") (by decide +kernel)) (fun _ h9 => h9) rfl dX3_fold_20 ?_
      refine lv_aload_n hx hb dX3_fold_23 rfl (lv_at hl 0 rfl) ?_
      refine va_get (D := (dC, dI)) (ci := 2) (v := .ref ra) (C := RX3) (T := TX3) (N := 8) hx hb hts (by decide +kernel) hown hK hP 0 rfl rfl 1 (by decide) (hts (.fieldLink RX3 13 "ThreePrimes" "rowA" "[I") (by decide +kernel)) (fun _ h9 => h9) rfl dX3_fold_24 ?_
      refine lv_aload_n hx hb dX3_fold_27 rfl (lv_at hl 0 rfl) ?_
      refine va_get (D := (dC, dI)) (ci := 2) (v := .ref rb) (C := RX3) (T := TX3) (N := 8) hx hb hts (by decide +kernel) hown hK hP 0 rfl rfl 2 (by decide) (hts (.fieldLink RX3 17 "ThreePrimes" "rowB" "[I") (by decide +kernel)) (fun _ h9 => h9) rfl dX3_fold_28 ?_
      refine lv_aload_n hx hb dX3_fold_31 rfl (lv_at hl 0 rfl) ?_
      refine va_get (D := (dC, dI)) (ci := 2) (v := .int (nI k)) (C := RX3) (T := TX3) (N := 8) hx hb hts (by decide +kernel) hown hK hP 0 rfl rfl 0 (by decide) (hts (.fieldLink RX3 9 "ThreePrimes" "levels" "I") (by decide +kernel)) (fun _ h9 => h9) rfl dX3_fold_32 ?_
      refine lv_iload_n hx hb dX3_fold_35 rfl (lv_at hl 1 rfl) ?_
      refine lv_aload_n hx hb dX3_fold_36 rfl (lv_at hl 0 rfl) ?_
      refine va_get (D := (dC, dI)) (ci := 2) (v := .ref sm) (C := RX3) (T := TX3) (N := 8) hx hb hts (by decide +kernel) hown hK hP 0 rfl rfl 4 (by decide) (hts (.fieldLink RX3 28 "ThreePrimes" "sums" "LThreePrimes$Sums;") (by decide +kernel)) (fun _ h9 => h9) rfl dX3_fold_37 ?_
      have hPc := hP.sub (ws' := [(hh, .inr (0, [.ref lf, .ref rt, .ref rp])), (lf, .inl (cJ, 512, .inr (.inl (fun j => lI (FL j))))), (rt, .inl (cJ, 512, .inr (.inl (fun j => lI (FR j))))), (rp, .inl (cJ, 256, .inr (.inl (fun j => lI (FP j))))), (ra, .inl (cI, 256, .inl fA)), (rb, .inl (cI, 256, .inl fB)), (sm, .inr (1, [.ref so])), (so, .inl (cO, 3, .inr (.inr (.inr (.inr g))))), (r0, .inl (cI, 511, .inl R0)), (r1, .inl (cI, 511, .inl R1)), (r2, .inl (cI, 511, .inl R2))]) [1, 2, 3, 4, 5, 6, 7, 8, 9, 10, 11] rfl
      have hDc := hD.sub (ws' := [(hh, .inr (0, [.ref lf, .ref rt, .ref rp])), (lf, .inl (cJ, 512, .inr (.inl (fun j => lI (FL j))))), (rt, .inl (cJ, 512, .inr (.inl (fun j => lI (FR j))))), (rp, .inl (cJ, 256, .inr (.inl (fun j => lI (FP j))))), (ra, .inl (cI, 256, .inl fA)), (rb, .inl (cI, 256, .inl fB)), (sm, .inr (1, [.ref so])), (so, .inl (cO, 3, .inr (.inr (.inr (.inr g))))), (r0, .inl (cI, 511, .inl R0)), (r1, .inl (cI, 511, .inl R1)), (r2, .inl (cI, 511, .inl R2))]) [1, 2, 3, 4, 5, 6, 7, 8, 9, 10, 11] (by decide) rfl
      have hKc := hK.sub (tys' := [(cI, .int), (cJ, .long), (cO, .array .int)]) [0, 1, 2] rfl
      have hFc := va_free (wc := [(hh, .inr (0, [.ref lf, .ref rt, .ref rp])), (lf, .inl (cJ, 512, .inr (.inl (fun j => lI (FL j))))), (rt, .inl (cJ, 512, .inr (.inl (fun j => lI (FR j))))), (rp, .inl (cJ, 256, .inr (.inl (fun j => lI (FP j))))), (ra, .inl (cI, 256, .inl fA)), (rb, .inl (cI, 256, .inl fB)), (sm, .inr (1, [.ref so])), (so, .inl (cO, 3, .inr (.inr (.inr (.inr g))))), (r0, .inl (cI, 511, .inl R0)), (r1, .inl (cI, 511, .inl R1)), (r2, .inl (cI, 511, .inl R2))]) hD hS hA [1, 2, 3, 4, 5, 6, 7, 8, 9, 10, 11] rfl
      refine va_callv (va_runV (As := [.ref ra, .ref rb, .int (nI k), .int (nI 1), .ref sm]) (rest := []) ⟨hx, hb, hml, hown, hts⟩ (c_X0_foldRows_1 l dC dI cI cJ cO hh lf rt rp ra rb sm so r0 r1 r2 g fA fB R0 R1 R2 FL FR FP 511 k H.size tP sa hg0 hg1 hg2 (by omega) (by omega) (by rw [hcd]; omega) (by omega)) (cwV 5 hts gX3_fold_X0_foldRows rfl rfl rfl (by decide +kernel) ⟨Nat.le_of_ble_eq_true rfl, Nat.le_of_ble_eq_true rfl⟩) ⟨fun a U g mk q => by obtain ⟨q0, q1, qP, qK, qD, qM⟩ := q; exact ⟨q0, q1, qP, va_K.moved (u := U) (U := U.calling g mk a) (Vm.Alike.refl U.vm) qK, qD, amb_same (U := U) (U' := U.calling g mk a) rfl rfl qM⟩, va_recv hKc hPc (ci := 0) (q0 := 0) rfl rfl, fun U hU hW => ⟨rfl, by rw [hU], by rw [hU]; exact hPc, va_K.moved hW.alike hKc, hDc.weaken (fun _ _ _ _ => trivial), amb_pass hM hS hFc hW hU⟩⟩ rfl rfl hl.1 rfl (lv_room (Nat.le_of_ble_eq_true rfl)) dX3_fold_40 ⟨Nat.le_of_ble_eq_true rfl, Nat.le_of_ble_eq_true rfl⟩) hS (fun q _ h => hFc q h) hFc (fun u9 t9 H1 locs ht hvm hw hB hz1 hk1 hS => ?_)
      obtain ⟨ua_3, ub_4, uc_5⟩ := u9
      obtain ⟨hP1, hD1⟩ := hB
      dsimp only at hP1 hD1
      rw [ht] at hP1
      try dsimp only at hw
      obtain ⟨hP, hD⟩ := va_join (wr := [(xo, .inr (2, [.int (nI k), .ref ra, .ref rb, .int (nI rs), .ref sm, .ref hh, .ref ps, .ref pb]))]) (w1 := [(hh, .inr (0, [.ref lf, .ref rt, .ref rp])), (lf, .inl (cJ, 512, .inr (.inl (fun j => lI ((ua_3 3) j))))), (rt, .inl (cJ, 512, .inr (.inl (fun j => lI ((ub_4 3) j))))), (rp, .inl (cJ, 256, .inr (.inl (fun j => lI ((uc_5 3) j))))), (ra, .inl (cI, 256, .inl fA)), (rb, .inl (cI, 256, .inl fB)), (sm, .inr (1, [.ref so])), (so, .inl (cO, 3, .inr (.inr (.inr (.inr g))))), (r0, .inl (cI, 511, .inl (stR R0 (fdq 1 fA fB (ua_3 0) (ub_4 0) (uc_5 0) k 998244353) (cntK 1 k)))), (r1, .inl (cI, 511, .inl (stR R1 (fdq 1 fA fB (ua_3 1) (ub_4 1) (uc_5 1) k 167772161) (cntK 1 k)))), (r2, .inl (cI, 511, .inl (stR R2 (fdq 1 fA fB (ua_3 2) (ub_4 2) (uc_5 2) k 469762049) (cntK 1 k))))]) hP hD [1, 2, 3, 4, 5, 6, 7, 8, 9, 10, 11] [0] rfl rfl (by decide) (by decide) hk1 hFc hP1 hD1
      generalize H1 = H at hP hS ⊢
      have hP : va_P (dC, dI) vwCl [(xo, .inr (2, [.int (nI k), .ref ra, .ref rb, .int (nI rs), .ref sm, .ref hh, .ref ps, .ref pb])), (hh, .inr (0, [.ref lf, .ref rt, .ref rp])), (lf, .inl (cJ, 512, .inr (.inl (fun j => lI ((ua_3 3) j))))), (rt, .inl (cJ, 512, .inr (.inl (fun j => lI ((ub_4 3) j))))), (rp, .inl (cJ, 256, .inr (.inl (fun j => lI ((uc_5 3) j))))), (ra, .inl (cI, 256, .inl fA)), (rb, .inl (cI, 256, .inl fB)), (sm, .inr (1, [.ref so])), (so, .inl (cO, 3, .inr (.inr (.inr (.inr g))))), (r0, .inl (cI, 511, .inl (stR R0 (fdq 1 fA fB (ua_3 0) (ub_4 0) (uc_5 0) k 998244353) (cntK 1 k)))), (r1, .inl (cI, 511, .inl (stR R1 (fdq 1 fA fB (ua_3 1) (ub_4 1) (uc_5 1) k 167772161) (cntK 1 k)))), (r2, .inl (cI, 511, .inl (stR R2 (fdq 1 fA fB (ua_3 2) (ub_4 2) (uc_5 2) k 469762049) (cntK 1 k))))] H := hP
      have hD : va_D A [(xo, .inr (2, [.int (nI k), .ref ra, .ref rb, .int (nI rs), .ref sm, .ref hh, .ref ps, .ref pb])), (hh, .inr (0, [.ref lf, .ref rt, .ref rp])), (lf, .inl (cJ, 512, .inr (.inl (fun j => lI ((ua_3 3) j))))), (rt, .inl (cJ, 512, .inr (.inl (fun j => lI ((ub_4 3) j))))), (rp, .inl (cJ, 256, .inr (.inl (fun j => lI ((uc_5 3) j))))), (ra, .inl (cI, 256, .inl fA)), (rb, .inl (cI, 256, .inl fB)), (sm, .inr (1, [.ref so])), (so, .inl (cO, 3, .inr (.inr (.inr (.inr g))))), (r0, .inl (cI, 511, .inl (stR R0 (fdq 1 fA fB (ua_3 0) (ub_4 0) (uc_5 0) k 998244353) (cntK 1 k)))), (r1, .inl (cI, 511, .inl (stR R1 (fdq 1 fA fB (ua_3 1) (ub_4 1) (uc_5 1) k 167772161) (cntK 1 k)))), (r2, .inl (cI, 511, .inl (stR R2 (fdq 1 fA fB (ua_3 2) (ub_4 2) (uc_5 2) k 469762049) (cntK 1 k))))] := hD
      clear hPc hDc hKc hFc hP1 hD1 hk1 hz1 hvm ht
      clear hw
      refine lv_aload_n hx hb dX3_fold_43 rfl (lv_at hl 0 rfl) ?_
      refine lv_iload_n hx hb dX3_fold_44 rfl (lv_at hl 1 rfl) ?_
      refine lv_iconst (v := nI 2) hx hb dX3_fold_45 (by decide) ?_
      refine lv_icmp_ne (tgt := 60) hx hb dX3_fold_46 (by decide) (fun c_6 => ?_) (fun c_6 => ?_)
      · have c_6 : ¬ (1 = 2) := fun zq9 => c_6 ((nI_eq (a := 1) (b := 2) (by omega) (by omega)).mpr zq9)
        refine lv_aload_n hx hb dX3_fold_60 rfl (lv_at hl 0 rfl) ?_
        have hPc := hP.sub (ws' := [(xo, .inr (2, [.int (nI k), .ref ra, .ref rb, .int (nI rs), .ref sm, .ref hh, .ref ps, .ref pb]))]) [0] rfl
        have hDc := hD.sub (ws' := [(xo, .inr (2, [.int (nI k), .ref ra, .ref rb, .int (nI rs), .ref sm, .ref hh, .ref ps, .ref pb]))]) [0] (by decide) rfl
        have hKc := hK.sub (tys' := []) [] rfl
        have hFc := va_free (wc := [(xo, .inr (2, [.int (nI k), .ref ra, .ref rb, .int (nI rs), .ref sm, .ref hh, .ref ps, .ref pb]))]) hD hS hA [0] rfl
        refine va_calli (va_runV (As := []) (rest := [.ref xo]) ⟨hx, hb, hml, hown, hts⟩ (c_X3_places l dC dI xo ra rb sm hh ps pb k rs H.size (by omega) (by omega)) (cwV 0 hts gX3_fold_X3_places rfl rfl rfl (by decide +kernel) ⟨Nat.le_of_ble_eq_true rfl, Nat.le_of_ble_eq_true rfl⟩) ⟨fun a U g mk q => by obtain ⟨q0, q1, qP, qK, qD⟩ := q; exact ⟨q0, q1, qP, va_K.moved (u := U) (U := U.calling g mk a) (Vm.Alike.refl U.vm) qK, qD⟩, va_recv hKc hPc (ci := 2) (q0 := 0) rfl rfl, fun U hU hW => ⟨rfl, by rw [hU], by rw [hU]; exact hPc, va_K.moved hW.alike hKc, hDc.weaken (fun _ _ _ _ => trivial)⟩⟩ rfl rfl hl.1 rfl (lv_room (Nat.le_of_ble_eq_true rfl)) dX3_fold_61 ⟨Nat.le_of_ble_eq_true rfl, Nat.le_of_ble_eq_true rfl⟩) hS (fun q _ h => hFc q h) hFc (fun r9 u9 t9 H1 locs ht hvm hw hB hz1 hk1 hS => ?_)
        obtain ⟨hP1, hD1⟩ := hB
        rw [ht] at hP1
        try dsimp only at hw
        obtain ⟨hP, hD⟩ := va_join (wr := [(hh, .inr (0, [.ref lf, .ref rt, .ref rp])), (lf, .inl (cJ, 512, .inr (.inl (fun j => lI ((ua_3 3) j))))), (rt, .inl (cJ, 512, .inr (.inl (fun j => lI ((ub_4 3) j))))), (rp, .inl (cJ, 256, .inr (.inl (fun j => lI ((uc_5 3) j))))), (ra, .inl (cI, 256, .inl fA)), (rb, .inl (cI, 256, .inl fB)), (sm, .inr (1, [.ref so])), (so, .inl (cO, 3, .inr (.inr (.inr (.inr g))))), (r0, .inl (cI, 511, .inl (stR R0 (fdq 1 fA fB (ua_3 0) (ub_4 0) (uc_5 0) k 998244353) (cntK 1 k)))), (r1, .inl (cI, 511, .inl (stR R1 (fdq 1 fA fB (ua_3 1) (ub_4 1) (uc_5 1) k 167772161) (cntK 1 k)))), (r2, .inl (cI, 511, .inl (stR R2 (fdq 1 fA fB (ua_3 2) (ub_4 2) (uc_5 2) k 469762049) (cntK 1 k))))]) (w1 := [(xo, .inr (2, [.int (nI k), .ref ra, .ref rb, .int (nI rs), .ref sm, .ref hh, .ref ps, .ref pb]))]) hP hD [0] [1, 2, 3, 4, 5, 6, 7, 8, 9, 10, 11] rfl rfl (by decide) (by decide) hk1 hFc hP1 hD1
        generalize H1 = H at hP hS ⊢
        have hP : va_P (dC, dI) vwCl [(hh, .inr (0, [.ref lf, .ref rt, .ref rp])), (lf, .inl (cJ, 512, .inr (.inl (fun j => lI ((ua_3 3) j))))), (rt, .inl (cJ, 512, .inr (.inl (fun j => lI ((ub_4 3) j))))), (rp, .inl (cJ, 256, .inr (.inl (fun j => lI ((uc_5 3) j))))), (ra, .inl (cI, 256, .inl fA)), (rb, .inl (cI, 256, .inl fB)), (sm, .inr (1, [.ref so])), (so, .inl (cO, 3, .inr (.inr (.inr (.inr g))))), (r0, .inl (cI, 511, .inl (stR R0 (fdq 1 fA fB (ua_3 0) (ub_4 0) (uc_5 0) k 998244353) (cntK 1 k)))), (r1, .inl (cI, 511, .inl (stR R1 (fdq 1 fA fB (ua_3 1) (ub_4 1) (uc_5 1) k 167772161) (cntK 1 k)))), (r2, .inl (cI, 511, .inl (stR R2 (fdq 1 fA fB (ua_3 2) (ub_4 2) (uc_5 2) k 469762049) (cntK 1 k)))), (xo, .inr (2, [.int (nI k), .ref ra, .ref rb, .int (nI rs), .ref sm, .ref hh, .ref ps, .ref pb]))] H := hP
        have hD : va_D A [(hh, .inr (0, [.ref lf, .ref rt, .ref rp])), (lf, .inl (cJ, 512, .inr (.inl (fun j => lI ((ua_3 3) j))))), (rt, .inl (cJ, 512, .inr (.inl (fun j => lI ((ub_4 3) j))))), (rp, .inl (cJ, 256, .inr (.inl (fun j => lI ((uc_5 3) j))))), (ra, .inl (cI, 256, .inl fA)), (rb, .inl (cI, 256, .inl fB)), (sm, .inr (1, [.ref so])), (so, .inl (cO, 3, .inr (.inr (.inr (.inr g))))), (r0, .inl (cI, 511, .inl (stR R0 (fdq 1 fA fB (ua_3 0) (ub_4 0) (uc_5 0) k 998244353) (cntK 1 k)))), (r1, .inl (cI, 511, .inl (stR R1 (fdq 1 fA fB (ua_3 1) (ub_4 1) (uc_5 1) k 167772161) (cntK 1 k)))), (r2, .inl (cI, 511, .inl (stR R2 (fdq 1 fA fB (ua_3 2) (ub_4 2) (uc_5 2) k 469762049) (cntK 1 k)))), (xo, .inr (2, [.int (nI k), .ref ra, .ref rb, .int (nI rs), .ref sm, .ref hh, .ref ps, .ref pb]))] := hD
        clear hPc hDc hKc hFc hP1 hD1 hk1 hz1 hvm ht
        subst hw
        refine va_put (D := (dC, dI)) (ci := 2) (v := .int (nI (2 ^ k))) (ty := .int) (C := RX3) (T := TX3) (N := 8) hx hb hts (by decide +kernel) tyX3 tyX3_ok nmX3 hown hK hP hD hS 11 rfl rfl 3 (by decide) (hts (.fieldLink RX3 20 "ThreePrimes" "results" "I") (by decide +kernel)) (fun _ h9 => h9) rfl (by decide +kernel) rfl rfl (Nat.le_of_ble_eq_true rfl) dX3_fold_64 (fun H locs hP hD hS => ?_)
        have hP : va_P (dC, dI) vwCl [(hh, .inr (0, [.ref lf, .ref rt, .ref rp])), (lf, .inl (cJ, 512, .inr (.inl (fun j => lI ((ua_3 3) j))))), (rt, .inl (cJ, 512, .inr (.inl (fun j => lI ((ub_4 3) j))))), (rp, .inl (cJ, 256, .inr (.inl (fun j => lI ((uc_5 3) j))))), (ra, .inl (cI, 256, .inl fA)), (rb, .inl (cI, 256, .inl fB)), (sm, .inr (1, [.ref so])), (so, .inl (cO, 3, .inr (.inr (.inr (.inr g))))), (r0, .inl (cI, 511, .inl (stR R0 (fdq 1 fA fB (ua_3 0) (ub_4 0) (uc_5 0) k 998244353) (cntK 1 k)))), (r1, .inl (cI, 511, .inl (stR R1 (fdq 1 fA fB (ua_3 1) (ub_4 1) (uc_5 1) k 167772161) (cntK 1 k)))), (r2, .inl (cI, 511, .inl (stR R2 (fdq 1 fA fB (ua_3 2) (ub_4 2) (uc_5 2) k 469762049) (cntK 1 k)))), (xo, .inr (2, [.int (nI k), .ref ra, .ref rb, .int (nI (2 ^ k)), .ref sm, .ref hh, .ref ps, .ref pb]))] H := hP
        have hD : va_D A [(hh, .inr (0, [.ref lf, .ref rt, .ref rp])), (lf, .inl (cJ, 512, .inr (.inl (fun j => lI ((ua_3 3) j))))), (rt, .inl (cJ, 512, .inr (.inl (fun j => lI ((ub_4 3) j))))), (rp, .inl (cJ, 256, .inr (.inl (fun j => lI ((uc_5 3) j))))), (ra, .inl (cI, 256, .inl fA)), (rb, .inl (cI, 256, .inl fB)), (sm, .inr (1, [.ref so])), (so, .inl (cO, 3, .inr (.inr (.inr (.inr g))))), (r0, .inl (cI, 511, .inl (stR R0 (fdq 1 fA fB (ua_3 0) (ub_4 0) (uc_5 0) k 998244353) (cntK 1 k)))), (r1, .inl (cI, 511, .inl (stR R1 (fdq 1 fA fB (ua_3 1) (ub_4 1) (uc_5 1) k 167772161) (cntK 1 k)))), (r2, .inl (cI, 511, .inl (stR R2 (fdq 1 fA fB (ua_3 2) (ub_4 2) (uc_5 2) k 469762049) (cntK 1 k)))), (xo, .inr (2, [.int (nI k), .ref ra, .ref rb, .int (nI (2 ^ k)), .ref sm, .ref hh, .ref ps, .ref pb]))] := hD
        refine lv_aload_n hx hb dX3_fold_67 rfl (lv_at hl 0 rfl) ?_
        refine va_get (D := (dC, dI)) (ci := 2) (v := .int (nI (2 ^ k))) (C := RX3) (T := TX3) (N := 8) hx hb hts (by decide +kernel) hown hK hP 11 rfl rfl 3 (by decide) (hts (.fieldLink RX3 20 "ThreePrimes" "results" "I") (by decide +kernel)) (fun _ h9 => h9) rfl dX3_fold_68 ?_
        have hP9 : va_P (dC, dI) vwCl [(xo, .inr (2, [.int (nI k), .ref ra, .ref rb, .int (nI (cntK 1 k)), .ref sm, .ref hh, .ref ps, .ref pb])), (hh, .inr (0, [.ref lf, .ref rt, .ref rp])), (lf, .inl (cJ, 512, .inr (.inl (fun j => lI ((ua_3 3) j))))), (rt, .inl (cJ, 512, .inr (.inl (fun j => lI ((ub_4 3) j))))), (rp, .inl (cJ, 256, .inr (.inl (fun j => lI ((uc_5 3) j))))), (ra, .inl (cI, 256, .inl fA)), (rb, .inl (cI, 256, .inl fB)), (sm, .inr (1, [.ref so])), (so, .inl (cO, 3, .inr (.inr (.inr (.inr g))))), (r0, .inl (cI, 511, .inl (stR R0 (fdq 1 fA fB (ua_3 0) (ub_4 0) (uc_5 0) k 998244353) (cntK 1 k)))), (r1, .inl (cI, 511, .inl (stR R1 (fdq 1 fA fB (ua_3 1) (ub_4 1) (uc_5 1) k 167772161) (cntK 1 k)))), (r2, .inl (cI, 511, .inl (stR R2 (fdq 1 fA fB (ua_3 2) (ub_4 2) (uc_5 2) k 469762049) (cntK 1 k))))] H := hP.sub [11, 0, 1, 2, 3, 4, 5, 6, 7, 8, 9, 10] rfl
        have hD9 : va_D A [(xo, .inr (2, [.int (nI k), .ref ra, .ref rb, .int (nI (cntK 1 k)), .ref sm, .ref hh, .ref ps, .ref pb])), (hh, .inr (0, [.ref lf, .ref rt, .ref rp])), (lf, .inl (cJ, 512, .inr (.inl (fun j => lI ((ua_3 3) j))))), (rt, .inl (cJ, 512, .inr (.inl (fun j => lI ((ub_4 3) j))))), (rp, .inl (cJ, 256, .inr (.inl (fun j => lI ((uc_5 3) j))))), (ra, .inl (cI, 256, .inl fA)), (rb, .inl (cI, 256, .inl fB)), (sm, .inr (1, [.ref so])), (so, .inl (cO, 3, .inr (.inr (.inr (.inr g))))), (r0, .inl (cI, 511, .inl (stR R0 (fdq 1 fA fB (ua_3 0) (ub_4 0) (uc_5 0) k 998244353) (cntK 1 k)))), (r1, .inl (cI, 511, .inl (stR R1 (fdq 1 fA fB (ua_3 1) (ub_4 1) (uc_5 1) k 167772161) (cntK 1 k)))), (r2, .inl (cI, 511, .inl (stR R2 (fdq 1 fA fB (ua_3 2) (ub_4 2) (uc_5 2) k 469762049) (cntK 1 k))))] := hD.sub [11, 0, 1, 2, 3, 4, 5, 6, 7, 8, 9, 10] (by decide) rfl
        exact W.iret (v := nI (2 ^ k)) hx hb hr (fun t ht hW => ⟨⟨nI (2 ^ k), (ua_3, ub_4, uc_5), rfl, rfl, by rw [ht]; exact hP9, hD9⟩, hS.F ht⟩) hS.2.2 dX3_fold_71
      · have c_6 : 1 = 2 := (nI_eq (a := 1) (b := 2) (by omega) (by omega)).mp c_6
        omega
    · have c_2 : ¬ (1 ≤ 2) := fun zq9 => c_2 ((nI_leI (a := 1) (b := 2) (by omega) (by omega)).mpr zq9)
      omega

abbrev q_X3_fold_2 (dC : Nat → ClassId) (dI : Nat → Nat → Nat) (xo ra rb sm hh ps pb k rs : Nat) (cI cJ cO : ClassId) (lf rt rp so r0 r1 r2 : Nat) (g : Nat → Option Nat) (fA fB R0 R1 R2 : Nat → Int32) (FL FR FP : Nat → Int) (A : Nat → Prop) : Array Value → State → Outcome → State → Prop := va_Qi (fun (r : Int32) (u : Grb) => r = nI (cntK 2 k)) (fun u t => va_P (dC, dI) vwCl [(xo, .inr (2, [.int (nI k), .ref ra, .ref rb, .int (nI (cntK 2 k)), .ref sm, .ref hh, .ref ps, .ref pb])), (hh, .inr (0, [.ref lf, .ref rt, .ref rp])), (lf, .inl (cJ, 512, .inr (.inl (fun j => lI ((u.1 3) j))))), (rt, .inl (cJ, 512, .inr (.inl (fun j => lI ((u.2.1 3) j))))), (rp, .inl (cJ, 256, .inr (.inl (fun j => lI ((u.2.2 3) j))))), (ra, .inl (cI, 256, .inl fA)), (rb, .inl (cI, 256, .inl fB)), (sm, .inr (1, [.ref so])), (so, .inl (cO, 3, .inr (.inr (.inr (.inr g))))), (r0, .inl (cI, 511, .inl (stR R0 (fdq 2 fA fB (u.1 0) (u.2.1 0) (u.2.2 0) k 998244353) (cntK 2 k)))), (r1, .inl (cI, 511, .inl (stR R1 (fdq 2 fA fB (u.1 1) (u.2.1 1) (u.2.2 1) k 167772161) (cntK 2 k)))), (r2, .inl (cI, 511, .inl (stR R2 (fdq 2 fA fB (u.1 2) (u.2.1 2) (u.2.2 2) k 469762049) (cntK 2 k))))] t.heap ∧ va_D A [(xo, .inr (2, [.int (nI k), .ref ra, .ref rb, .int (nI (cntK 2 k)), .ref sm, .ref hh, .ref ps, .ref pb])), (hh, .inr (0, [.ref lf, .ref rt, .ref rp])), (lf, .inl (cJ, 512, .inr (.inl (fun j => lI ((u.1 3) j))))), (rt, .inl (cJ, 512, .inr (.inl (fun j => lI ((u.2.1 3) j))))), (rp, .inl (cJ, 256, .inr (.inl (fun j => lI ((u.2.2 3) j))))), (ra, .inl (cI, 256, .inl fA)), (rb, .inl (cI, 256, .inl fB)), (sm, .inr (1, [.ref so])), (so, .inl (cO, 3, .inr (.inr (.inr (.inr g))))), (r0, .inl (cI, 511, .inl (stR R0 (fdq 2 fA fB (u.1 0) (u.2.1 0) (u.2.2 0) k 998244353) (cntK 2 k)))), (r1, .inl (cI, 511, .inl (stR R1 (fdq 2 fA fB (u.1 1) (u.2.1 1) (u.2.2 1) k 167772161) (cntK 2 k)))), (r2, .inl (cI, 511, .inl (stR R2 (fdq 2 fA fB (u.1 2) (u.2.1 2) (u.2.2 2) k 469762049) (cntK 2 k))))]) A
set_option maxHeartbeats 4000000 in
set_option maxRecDepth 100000 in
theorem c_X3_fold_2 (l : Launch) (dC : Nat → ClassId) (dI : Nat → Nat → Nat) (xo ra rb sm hh ps pb k rs : Nat) (cI cJ cO : ClassId) (lf rt rp so r0 r1 r2 : Nat) (g : Nat → Option Nat) (fA fB R0 R1 R2 : Nat → Int32) (FL FR FP : Nat → Int) (sz : Nat) (tP : Nat) (sa : Nat → Nat) (zk1 : 1 ≤ k) (zk : k ≤ 8) (hg0 : g 0 = some r0) (hg1 : g 1 = some r1) (hg2 : g 2 = some r2) : Met l yX3_fold wsX3_fold ({ frames := 5, cells := 0, slots := 0, locals := 132 }) (va_Pc [.ref xo, .int (nI 2)] (fun U => U.heap.size = sz ∧ va_P (dC, dI) vwCl [(xo, .inr (2, [.int (nI k), .ref ra, .ref rb, .int (nI rs), .ref sm, .ref hh, .ref ps, .ref pb])), (hh, .inr (0, [.ref lf, .ref rt, .ref rp])), (lf, .inl (cJ, 512, .inr (.inl (fun j => lI (FL j))))), (rt, .inl (cJ, 512, .inr (.inl (fun j => lI (FR j))))), (rp, .inl (cJ, 256, .inr (.inl (fun j => lI (FP j))))), (ra, .inl (cI, 256, .inl fA)), (rb, .inl (cI, 256, .inl fB)), (sm, .inr (1, [.ref so])), (so, .inl (cO, 3, .inr (.inr (.inr (.inr g))))), (r0, .inl (cI, 511, .inl R0)), (r1, .inl (cI, 511, .inl R1)), (r2, .inl (cI, 511, .inl R2))] U.heap ∧ va_K (dC, dI) vwCl [(cI, .int), (cJ, .long), (cO, .array .int)] U ∧ va_D (fun _ => True) [(xo, .inr (2, [.int (nI k), .ref ra, .ref rb, .int (nI rs), .ref sm, .ref hh, .ref ps, .ref pb])), (hh, .inr (0, [.ref lf, .ref rt, .ref rp])), (lf, .inl (cJ, 512, .inr (.inl (fun j => lI (FL j))))), (rt, .inl (cJ, 512, .inr (.inl (fun j => lI (FR j))))), (rp, .inl (cJ, 256, .inr (.inl (fun j => lI (FP j))))), (ra, .inl (cI, 256, .inl fA)), (rb, .inl (cI, 256, .inl fB)), (sm, .inr (1, [.ref so])), (so, .inl (cO, 3, .inr (.inr (.inr (.inr g))))), (r0, .inl (cI, 511, .inl R0)), (r1, .inl (cI, 511, .inl R1)), (r2, .inl (cI, 511, .inl R2))] ∧ amb tP sa (va_A [(xo, .inr (2, [.int (nI k), .ref ra, .ref rb, .int (nI rs), .ref sm, .ref hh, .ref ps, .ref pb])), (hh, .inr (0, [.ref lf, .ref rt, .ref rp])), (lf, .inl (cJ, 512, .inr (.inl (fun j => lI (FL j))))), (rt, .inl (cJ, 512, .inr (.inl (fun j => lI (FR j))))), (rp, .inl (cJ, 256, .inr (.inl (fun j => lI (FP j))))), (ra, .inl (cI, 256, .inl fA)), (rb, .inl (cI, 256, .inl fB)), (sm, .inr (1, [.ref so])), (so, .inl (cO, 3, .inr (.inr (.inr (.inr g))))), (r0, .inl (cI, 511, .inl R0)), (r1, .inl (cI, 511, .inl R1)), (r2, .inl (cI, 511, .inl R2))] sz) U U.heap)) (q_X3_fold_2 dC dI xo ra rb sm hh ps pb k rs cI cJ cO lf rt rp so r0 r1 r2 g fA fB R0 R1 R2 FL FR FP (va_A [(xo, .inr (2, [.int (nI k), .ref ra, .ref rb, .int (nI rs), .ref sm, .ref hh, .ref ps, .ref pb])), (hh, .inr (0, [.ref lf, .ref rt, .ref rp])), (lf, .inl (cJ, 512, .inr (.inl (fun j => lI (FL j))))), (rt, .inl (cJ, 512, .inr (.inl (fun j => lI (FR j))))), (rp, .inl (cJ, 256, .inr (.inl (fun j => lI (FP j))))), (ra, .inl (cI, 256, .inl fA)), (rb, .inl (cI, 256, .inl fB)), (sm, .inr (1, [.ref so])), (so, .inl (cO, 3, .inr (.inr (.inr (.inr g))))), (r0, .inl (cI, 511, .inl R0)), (r1, .inl (cI, 511, .inl R1)), (r2, .inl (cI, 511, .inl R2))] sz)) 0 0 (va_A [(xo, .inr (2, [.int (nI k), .ref ra, .ref rb, .int (nI rs), .ref sm, .ref hh, .ref ps, .ref pb])), (hh, .inr (0, [.ref lf, .ref rt, .ref rp])), (lf, .inl (cJ, 512, .inr (.inl (fun j => lI (FL j))))), (rt, .inl (cJ, 512, .inr (.inl (fun j => lI (FR j))))), (rp, .inl (cJ, 256, .inr (.inl (fun j => lI (FP j))))), (ra, .inl (cI, 256, .inl fA)), (rb, .inl (cI, 256, .inl fB)), (sm, .inr (1, [.ref so])), (so, .inl (cO, 3, .inr (.inr (.inr (.inr g))))), (r0, .inl (cI, 511, .inl R0)), (r1, .inl (cI, 511, .inl R1)), (r2, .inl (cI, 511, .inl R2))] sz) := by
  refine Met.ofW (cc := cX3_fold) (maxL := 2) (ret := (some .int)) (by decide) rfl ?_
  intro p e s m args below meth c s₁ B hml hv
  obtain ⟨rfl, hsz, hP, hK, hD0, hM⟩ := hv
  have hx := B.exec
  have hb := B.bytes
  have hr := B.returns
  have hts := atoms_spec (ws := wsX3_fold) B.pre
  have hown : s.vm.findClass RX3 = some m.cls := findClass_of_methodNamed B.named
  have hlocks := B.notSynchronized
  subst hsz
  have hD := hD0.self (sz := s.heap.size)
  generalize hAe : va_A [(xo, .inr (2, [.int (nI k), .ref ra, .ref rb, .int (nI rs), .ref sm, .ref hh, .ref ps, .ref pb])), (hh, .inr (0, [.ref lf, .ref rt, .ref rp])), (lf, .inl (cJ, 512, .inr (.inl (fun j => lI (FL j))))), (rt, .inl (cJ, 512, .inr (.inl (fun j => lI (FR j))))), (rp, .inl (cJ, 256, .inr (.inl (fun j => lI (FP j))))), (ra, .inl (cI, 256, .inl fA)), (rb, .inl (cI, 256, .inl fB)), (sm, .inr (1, [.ref so])), (so, .inl (cO, 3, .inr (.inr (.inr (.inr g))))), (r0, .inl (cI, 511, .inl R0)), (r1, .inl (cI, 511, .inl R1)), (r2, .inl (cI, 511, .inl R2))] s.heap.size = A at hD hM ⊢
  have hA : ∀ q : Nat, s.heap.size ≤ q → A q := fun q h => by rw [← hAe]; exact Or.inr h
  have hS : va_S A s.heap s.heap [] := va_S.rf
  have hP : va_P (dC, dI) vwCl [(xo, .inr (2, [.int (nI k), .ref ra, .ref rb, .int (nI rs), .ref sm, .ref hh, .ref ps, .ref pb])), (hh, .inr (0, [.ref lf, .ref rt, .ref rp])), (lf, .inl (cJ, 512, .inr (.inl (fun j => lI (FL j))))), (rt, .inl (cJ, 512, .inr (.inl (fun j => lI (FR j))))), (rp, .inl (cJ, 256, .inr (.inl (fun j => lI (FP j))))), (ra, .inl (cI, 256, .inl fA)), (rb, .inl (cI, 256, .inl fB)), (sm, .inr (1, [.ref so])), (so, .inl (cO, 3, .inr (.inr (.inr (.inr g))))), (r0, .inl (cI, 511, .inl R0)), (r1, .inl (cI, 511, .inl R1)), (r2, .inl (cI, 511, .inl R2))] s.heap := hP
  have hl := lv_entry (([.ref xo, .int (nI 2)] : List Value)) (n := 2) (Nat.le_of_ble_eq_true rfl)
  rw [lg_entry_eq]
  generalize (lg_sl (([.ref xo, .int (nI 2)] : List Value)) ++ List.replicate (2 - (lg_sl (([.ref xo, .int (nI 2)] : List Value))).length) Slot.unset).toArray = ls at hl ⊢
  have hl : lv_has ls 2 [(0, .ref xo), (1, .int (nI 2))] := hl
  obtain ⟨H, hHe⟩ : ∃ H : Heap, H = s.heap := ⟨_, rfl⟩
  rw [← hHe] at hP
  have hS : va_S A s.heap H [] := by rw [hHe]; exact hS
  obtain ⟨locs, hlo⟩ : ∃ L : List Loc, L = [] := ⟨_, rfl⟩
  rw [← hlo] at hS ⊢
  rw [← hHe]
  have hpk := pw8 zk
  have hcd : cntK 2 k = 2 * 2 ^ k - 1 := rfl
  refine lv_iload_n hx hb dX3_fold_0 rfl (lv_at hl 1 rfl) ?_
  refine lv_if_lt (tgt := 9) hx hb dX3_fold_1 (by decide) (fun c_1 => ?_) (fun c_1 => ?_)
  · have c_1 : 2 < 0 := (nI_ltI (a := 2) (b := 0) (by omega) (by omega)).mp c_1
    omega
  · have c_1 : ¬ (2 < 0) := fun zq9 => c_1 ((nI_ltI (a := 2) (b := 0) (by omega) (by omega)).mpr zq9)
    refine lv_iload_n hx hb dX3_fold_4 rfl (lv_at hl 1 rfl) ?_
    refine lv_iconst (v := nI 2) hx hb dX3_fold_5 (by decide) ?_
    refine lv_icmp_le (tgt := 19) hx hb dX3_fold_6 (by decide) (fun c_2 => ?_) (fun c_2 => ?_)
    · have c_2 : 2 ≤ 2 := (nI_leI (a := 2) (b := 2) (by omega) (by omega)).mp c_2
      refine lv_aload_n hx hb dX3_fold_19 rfl (lv_at hl 0 rfl) ?_
      refine va_get (D := (dC, dI)) (ci := 2) (v := .ref hh) (C := RX3) (T := TX3) (N := 8) hx hb hts (by decide +kernel) hown hK hP 0 rfl rfl 5 (by decide) (hts (.fieldLink RX3 35 "ThreePrimes" "folder" "LThreePrimes$Folder;") (by decide +kernel)) (fun _ h9 => h9) rfl dX3_fold_20 ?_
      refine lv_aload_n hx hb dX3_fold_23 rfl (lv_at hl 0 rfl) ?_
      refine va_get (D := (dC, dI)) (ci := 2) (v := .ref ra) (C := RX3) (T := TX3) (N := 8) hx hb hts (by decide +kernel) hown hK hP 0 rfl rfl 1 (by decide) (hts (.fieldLink RX3 13 "ThreePrimes" "rowA" "[I") (by decide +kernel)) (fun _ h9 => h9) rfl dX3_fold_24 ?_
      refine lv_aload_n hx hb dX3_fold_27 rfl (lv_at hl 0 rfl) ?_
      refine va_get (D := (dC, dI)) (ci := 2) (v := .ref rb) (C := RX3) (T := TX3) (N := 8) hx hb hts (by decide +kernel) hown hK hP 0 rfl rfl 2 (by decide) (hts (.fieldLink RX3 17 "ThreePrimes" "rowB" "[I") (by decide +kernel)) (fun _ h9 => h9) rfl dX3_fold_28 ?_
      refine lv_aload_n hx hb dX3_fold_31 rfl (lv_at hl 0 rfl) ?_
      refine va_get (D := (dC, dI)) (ci := 2) (v := .int (nI k)) (C := RX3) (T := TX3) (N := 8) hx hb hts (by decide +kernel) hown hK hP 0 rfl rfl 0 (by decide) (hts (.fieldLink RX3 9 "ThreePrimes" "levels" "I") (by decide +kernel)) (fun _ h9 => h9) rfl dX3_fold_32 ?_
      refine lv_iload_n hx hb dX3_fold_35 rfl (lv_at hl 1 rfl) ?_
      refine lv_aload_n hx hb dX3_fold_36 rfl (lv_at hl 0 rfl) ?_
      refine va_get (D := (dC, dI)) (ci := 2) (v := .ref sm) (C := RX3) (T := TX3) (N := 8) hx hb hts (by decide +kernel) hown hK hP 0 rfl rfl 4 (by decide) (hts (.fieldLink RX3 28 "ThreePrimes" "sums" "LThreePrimes$Sums;") (by decide +kernel)) (fun _ h9 => h9) rfl dX3_fold_37 ?_
      have hPc := hP.sub (ws' := [(hh, .inr (0, [.ref lf, .ref rt, .ref rp])), (lf, .inl (cJ, 512, .inr (.inl (fun j => lI (FL j))))), (rt, .inl (cJ, 512, .inr (.inl (fun j => lI (FR j))))), (rp, .inl (cJ, 256, .inr (.inl (fun j => lI (FP j))))), (ra, .inl (cI, 256, .inl fA)), (rb, .inl (cI, 256, .inl fB)), (sm, .inr (1, [.ref so])), (so, .inl (cO, 3, .inr (.inr (.inr (.inr g))))), (r0, .inl (cI, 511, .inl R0)), (r1, .inl (cI, 511, .inl R1)), (r2, .inl (cI, 511, .inl R2))]) [1, 2, 3, 4, 5, 6, 7, 8, 9, 10, 11] rfl
      have hDc := hD.sub (ws' := [(hh, .inr (0, [.ref lf, .ref rt, .ref rp])), (lf, .inl (cJ, 512, .inr (.inl (fun j => lI (FL j))))), (rt, .inl (cJ, 512, .inr (.inl (fun j => lI (FR j))))), (rp, .inl (cJ, 256, .inr (.inl (fun j => lI (FP j))))), (ra, .inl (cI, 256, .inl fA)), (rb, .inl (cI, 256, .inl fB)), (sm, .inr (1, [.ref so])), (so, .inl (cO, 3, .inr (.inr (.inr (.inr g))))), (r0, .inl (cI, 511, .inl R0)), (r1, .inl (cI, 511, .inl R1)), (r2, .inl (cI, 511, .inl R2))]) [1, 2, 3, 4, 5, 6, 7, 8, 9, 10, 11] (by decide) rfl
      have hKc := hK.sub (tys' := [(cI, .int), (cJ, .long), (cO, .array .int)]) [0, 1, 2] rfl
      have hFc := va_free (wc := [(hh, .inr (0, [.ref lf, .ref rt, .ref rp])), (lf, .inl (cJ, 512, .inr (.inl (fun j => lI (FL j))))), (rt, .inl (cJ, 512, .inr (.inl (fun j => lI (FR j))))), (rp, .inl (cJ, 256, .inr (.inl (fun j => lI (FP j))))), (ra, .inl (cI, 256, .inl fA)), (rb, .inl (cI, 256, .inl fB)), (sm, .inr (1, [.ref so])), (so, .inl (cO, 3, .inr (.inr (.inr (.inr g))))), (r0, .inl (cI, 511, .inl R0)), (r1, .inl (cI, 511, .inl R1)), (r2, .inl (cI, 511, .inl R2))]) hD hS hA [1, 2, 3, 4, 5, 6, 7, 8, 9, 10, 11] rfl
      refine va_callv (va_runV (As := [.ref ra, .ref rb, .int (nI k), .int (nI 2), .ref sm]) (rest := []) ⟨hx, hb, hml, hown, hts⟩ (c_X0_foldRows_2 l dC dI cI cJ cO hh lf rt rp ra rb sm so r0 r1 r2 g fA fB R0 R1 R2 FL FR FP 511 k H.size tP sa hg0 hg1 hg2 (by omega) (by omega) (by rw [hcd]; omega) (by omega)) (cwV 5 hts gX3_fold_X0_foldRows rfl rfl rfl (by decide +kernel) ⟨Nat.le_of_ble_eq_true rfl, Nat.le_of_ble_eq_true rfl⟩) ⟨fun a U g mk q => by obtain ⟨q0, q1, qP, qK, qD, qM⟩ := q; exact ⟨q0, q1, qP, va_K.moved (u := U) (U := U.calling g mk a) (Vm.Alike.refl U.vm) qK, qD, amb_same (U := U) (U' := U.calling g mk a) rfl rfl qM⟩, va_recv hKc hPc (ci := 0) (q0 := 0) rfl rfl, fun U hU hW => ⟨rfl, by rw [hU], by rw [hU]; exact hPc, va_K.moved hW.alike hKc, hDc.weaken (fun _ _ _ _ => trivial), amb_pass hM hS hFc hW hU⟩⟩ rfl rfl hl.1 rfl (lv_room (Nat.le_of_ble_eq_true rfl)) dX3_fold_40 ⟨Nat.le_of_ble_eq_true rfl, Nat.le_of_ble_eq_true rfl⟩) hS (fun q _ h => hFc q h) hFc (fun u9 t9 H1 locs ht hvm hw hB hz1 hk1 hS => ?_)
      obtain ⟨ua_3, ub_4, uc_5⟩ := u9
      obtain ⟨hP1, hD1⟩ := hB
      dsimp only at hP1 hD1
      rw [ht] at hP1
      try dsimp only at hw
      obtain ⟨hP, hD⟩ := va_join (wr := [(xo, .inr (2, [.int (nI k), .ref ra, .ref rb, .int (nI rs), .ref sm, .ref hh, .ref ps, .ref pb]))]) (w1 := [(hh, .inr (0, [.ref lf, .ref rt, .ref rp])), (lf, .inl (cJ, 512, .inr (.inl (fun j => lI ((ua_3 3) j))))), (rt, .inl (cJ, 512, .inr (.inl (fun j => lI ((ub_4 3) j))))), (rp, .inl (cJ, 256, .inr (.inl (fun j => lI ((uc_5 3) j))))), (ra, .inl (cI, 256, .inl fA)), (rb, .inl (cI, 256, .inl fB)), (sm, .inr (1, [.ref so])), (so, .inl (cO, 3, .inr (.inr (.inr (.inr g))))), (r0, .inl (cI, 511, .inl (stR R0 (fdq 2 fA fB (ua_3 0) (ub_4 0) (uc_5 0) k 998244353) (cntK 2 k)))), (r1, .inl (cI, 511, .inl (stR R1 (fdq 2 fA fB (ua_3 1) (ub_4 1) (uc_5 1) k 167772161) (cntK 2 k)))), (r2, .inl (cI, 511, .inl (stR R2 (fdq 2 fA fB (ua_3 2) (ub_4 2) (uc_5 2) k 469762049) (cntK 2 k))))]) hP hD [1, 2, 3, 4, 5, 6, 7, 8, 9, 10, 11] [0] rfl rfl (by decide) (by decide) hk1 hFc hP1 hD1
      generalize H1 = H at hP hS ⊢
      have hP : va_P (dC, dI) vwCl [(xo, .inr (2, [.int (nI k), .ref ra, .ref rb, .int (nI rs), .ref sm, .ref hh, .ref ps, .ref pb])), (hh, .inr (0, [.ref lf, .ref rt, .ref rp])), (lf, .inl (cJ, 512, .inr (.inl (fun j => lI ((ua_3 3) j))))), (rt, .inl (cJ, 512, .inr (.inl (fun j => lI ((ub_4 3) j))))), (rp, .inl (cJ, 256, .inr (.inl (fun j => lI ((uc_5 3) j))))), (ra, .inl (cI, 256, .inl fA)), (rb, .inl (cI, 256, .inl fB)), (sm, .inr (1, [.ref so])), (so, .inl (cO, 3, .inr (.inr (.inr (.inr g))))), (r0, .inl (cI, 511, .inl (stR R0 (fdq 2 fA fB (ua_3 0) (ub_4 0) (uc_5 0) k 998244353) (cntK 2 k)))), (r1, .inl (cI, 511, .inl (stR R1 (fdq 2 fA fB (ua_3 1) (ub_4 1) (uc_5 1) k 167772161) (cntK 2 k)))), (r2, .inl (cI, 511, .inl (stR R2 (fdq 2 fA fB (ua_3 2) (ub_4 2) (uc_5 2) k 469762049) (cntK 2 k))))] H := hP
      have hD : va_D A [(xo, .inr (2, [.int (nI k), .ref ra, .ref rb, .int (nI rs), .ref sm, .ref hh, .ref ps, .ref pb])), (hh, .inr (0, [.ref lf, .ref rt, .ref rp])), (lf, .inl (cJ, 512, .inr (.inl (fun j => lI ((ua_3 3) j))))), (rt, .inl (cJ, 512, .inr (.inl (fun j => lI ((ub_4 3) j))))), (rp, .inl (cJ, 256, .inr (.inl (fun j => lI ((uc_5 3) j))))), (ra, .inl (cI, 256, .inl fA)), (rb, .inl (cI, 256, .inl fB)), (sm, .inr (1, [.ref so])), (so, .inl (cO, 3, .inr (.inr (.inr (.inr g))))), (r0, .inl (cI, 511, .inl (stR R0 (fdq 2 fA fB (ua_3 0) (ub_4 0) (uc_5 0) k 998244353) (cntK 2 k)))), (r1, .inl (cI, 511, .inl (stR R1 (fdq 2 fA fB (ua_3 1) (ub_4 1) (uc_5 1) k 167772161) (cntK 2 k)))), (r2, .inl (cI, 511, .inl (stR R2 (fdq 2 fA fB (ua_3 2) (ub_4 2) (uc_5 2) k 469762049) (cntK 2 k))))] := hD
      clear hPc hDc hKc hFc hP1 hD1 hk1 hz1 hvm ht
      clear hw
      refine lv_aload_n hx hb dX3_fold_43 rfl (lv_at hl 0 rfl) ?_
      refine lv_iload_n hx hb dX3_fold_44 rfl (lv_at hl 1 rfl) ?_
      refine lv_iconst (v := nI 2) hx hb dX3_fold_45 (by decide) ?_
      refine lv_icmp_ne (tgt := 60) hx hb dX3_fold_46 (by decide) (fun c_6 => ?_) (fun c_6 => ?_)
      · have c_6 : ¬ (2 = 2) := fun zq9 => c_6 ((nI_eq (a := 2) (b := 2) (by omega) (by omega)).mpr zq9)
        omega
      · have c_6 : 2 = 2 := (nI_eq (a := 2) (b := 2) (by omega) (by omega)).mp c_6
        refine lv_iconst (v := nI 2) hx hb dX3_fold_49 (by decide) ?_
        refine lv_aload_n hx hb dX3_fold_50 rfl (lv_at hl 0 rfl) ?_
        have hPc := hP.sub (ws' := [(xo, .inr (2, [.int (nI k), .ref ra, .ref rb, .int (nI rs), .ref sm, .ref hh, .ref ps, .ref pb]))]) [0] rfl
        have hDc := hD.sub (ws' := [(xo, .inr (2, [.int (nI k), .ref ra, .ref rb, .int (nI rs), .ref sm, .ref hh, .ref ps, .ref pb]))]) [0] (by decide) rfl
        have hKc := hK.sub (tys' := []) [] rfl
        have hFc := va_free (wc := [(xo, .inr (2, [.int (nI k), .ref ra, .ref rb, .int (nI rs), .ref sm, .ref hh, .ref ps, .ref pb]))]) hD hS hA [0] rfl
        refine va_calli (va_runV (As := []) (rest := [.int (nI 2), .ref xo]) ⟨hx, hb, hml, hown, hts⟩ (c_X3_places l dC dI xo ra rb sm hh ps pb k rs H.size (by omega) (by omega)) (cwV 0 hts gX3_fold_X3_places rfl rfl rfl (by decide +kernel) ⟨Nat.le_of_ble_eq_true rfl, Nat.le_of_ble_eq_true rfl⟩) ⟨fun a U g mk q => by obtain ⟨q0, q1, qP, qK, qD⟩ := q; exact ⟨q0, q1, qP, va_K.moved (u := U) (U := U.calling g mk a) (Vm.Alike.refl U.vm) qK, qD⟩, va_recv hKc hPc (ci := 2) (q0 := 0) rfl rfl, fun U hU hW => ⟨rfl, by rw [hU], by rw [hU]; exact hPc, va_K.moved hW.alike hKc, hDc.weaken (fun _ _ _ _ => trivial)⟩⟩ rfl rfl hl.1 rfl (lv_room (Nat.le_of_ble_eq_true rfl)) dX3_fold_51 ⟨Nat.le_of_ble_eq_true rfl, Nat.le_of_ble_eq_true rfl⟩) hS (fun q _ h => hFc q h) hFc (fun r9 u9 t9 H1 locs ht hvm hw hB hz1 hk1 hS => ?_)
        obtain ⟨hP1, hD1⟩ := hB
        rw [ht] at hP1
        try dsimp only at hw
        obtain ⟨hP, hD⟩ := va_join (wr := [(hh, .inr (0, [.ref lf, .ref rt, .ref rp])), (lf, .inl (cJ, 512, .inr (.inl (fun j => lI ((ua_3 3) j))))), (rt, .inl (cJ, 512, .inr (.inl (fun j => lI ((ub_4 3) j))))), (rp, .inl (cJ, 256, .inr (.inl (fun j => lI ((uc_5 3) j))))), (ra, .inl (cI, 256, .inl fA)), (rb, .inl (cI, 256, .inl fB)), (sm, .inr (1, [.ref so])), (so, .inl (cO, 3, .inr (.inr (.inr (.inr g))))), (r0, .inl (cI, 511, .inl (stR R0 (fdq 2 fA fB (ua_3 0) (ub_4 0) (uc_5 0) k 998244353) (cntK 2 k)))), (r1, .inl (cI, 511, .inl (stR R1 (fdq 2 fA fB (ua_3 1) (ub_4 1) (uc_5 1) k 167772161) (cntK 2 k)))), (r2, .inl (cI, 511, .inl (stR R2 (fdq 2 fA fB (ua_3 2) (ub_4 2) (uc_5 2) k 469762049) (cntK 2 k))))]) (w1 := [(xo, .inr (2, [.int (nI k), .ref ra, .ref rb, .int (nI rs), .ref sm, .ref hh, .ref ps, .ref pb]))]) hP hD [0] [1, 2, 3, 4, 5, 6, 7, 8, 9, 10, 11] rfl rfl (by decide) (by decide) hk1 hFc hP1 hD1
        generalize H1 = H at hP hS ⊢
        have hP : va_P (dC, dI) vwCl [(hh, .inr (0, [.ref lf, .ref rt, .ref rp])), (lf, .inl (cJ, 512, .inr (.inl (fun j => lI ((ua_3 3) j))))), (rt, .inl (cJ, 512, .inr (.inl (fun j => lI ((ub_4 3) j))))), (rp, .inl (cJ, 256, .inr (.inl (fun j => lI ((uc_5 3) j))))), (ra, .inl (cI, 256, .inl fA)), (rb, .inl (cI, 256, .inl fB)), (sm, .inr (1, [.ref so])), (so, .inl (cO, 3, .inr (.inr (.inr (.inr g))))), (r0, .inl (cI, 511, .inl (stR R0 (fdq 2 fA fB (ua_3 0) (ub_4 0) (uc_5 0) k 998244353) (cntK 2 k)))), (r1, .inl (cI, 511, .inl (stR R1 (fdq 2 fA fB (ua_3 1) (ub_4 1) (uc_5 1) k 167772161) (cntK 2 k)))), (r2, .inl (cI, 511, .inl (stR R2 (fdq 2 fA fB (ua_3 2) (ub_4 2) (uc_5 2) k 469762049) (cntK 2 k)))), (xo, .inr (2, [.int (nI k), .ref ra, .ref rb, .int (nI rs), .ref sm, .ref hh, .ref ps, .ref pb]))] H := hP
        have hD : va_D A [(hh, .inr (0, [.ref lf, .ref rt, .ref rp])), (lf, .inl (cJ, 512, .inr (.inl (fun j => lI ((ua_3 3) j))))), (rt, .inl (cJ, 512, .inr (.inl (fun j => lI ((ub_4 3) j))))), (rp, .inl (cJ, 256, .inr (.inl (fun j => lI ((uc_5 3) j))))), (ra, .inl (cI, 256, .inl fA)), (rb, .inl (cI, 256, .inl fB)), (sm, .inr (1, [.ref so])), (so, .inl (cO, 3, .inr (.inr (.inr (.inr g))))), (r0, .inl (cI, 511, .inl (stR R0 (fdq 2 fA fB (ua_3 0) (ub_4 0) (uc_5 0) k 998244353) (cntK 2 k)))), (r1, .inl (cI, 511, .inl (stR R1 (fdq 2 fA fB (ua_3 1) (ub_4 1) (uc_5 1) k 167772161) (cntK 2 k)))), (r2, .inl (cI, 511, .inl (stR R2 (fdq 2 fA fB (ua_3 2) (ub_4 2) (uc_5 2) k 469762049) (cntK 2 k)))), (xo, .inr (2, [.int (nI k), .ref ra, .ref rb, .int (nI rs), .ref sm, .ref hh, .ref ps, .ref pb]))] := hD
        clear hPc hDc hKc hFc hP1 hD1 hk1 hz1 hvm ht
        subst hw
        refine lv_imul hx hb dX3_fold_54 ?_
        refine W.eq (congrArg (fun z => F0 m _ ls (.int z :: _)) (show (nI 2) * (nI (2 ^ k)) = nI (2 * (2 ^ k)) from pk_mul 2 (2 ^ k))) ?_
        refine lv_iconst (v := nI 1) hx hb dX3_fold_55 (by decide) ?_
        refine lv_isub hx hb dX3_fold_56 ?_
        refine W.eq (congrArg (fun z => F0 m _ ls (.int z :: _)) (show (nI (2 * (2 ^ k))) - (nI 1) = nI (2 * (2 ^ k) - 1) from pk_sub (by omega))) ?_
        refine lv_goto (tgt := 64) hx hb dX3_fold_57 (by decide) ?_
        refine va_put (D := (dC, dI)) (ci := 2) (v := .int (nI (2 * (2 ^ k) - 1))) (ty := .int) (C := RX3) (T := TX3) (N := 8) hx hb hts (by decide +kernel) tyX3 tyX3_ok nmX3 hown hK hP hD hS 11 rfl rfl 3 (by decide) (hts (.fieldLink RX3 20 "ThreePrimes" "results" "I") (by decide +kernel)) (fun _ h9 => h9) rfl (by decide +kernel) rfl rfl (Nat.le_of_ble_eq_true rfl) dX3_fold_64 (fun H locs hP hD hS => ?_)
        have hP : va_P (dC, dI) vwCl [(hh, .inr (0, [.ref lf, .ref rt, .ref rp])), (lf, .inl (cJ, 512, .inr (.inl (fun j => lI ((ua_3 3) j))))), (rt, .inl (cJ, 512, .inr (.inl (fun j => lI ((ub_4 3) j))))), (rp, .inl (cJ, 256, .inr (.inl (fun j => lI ((uc_5 3) j))))), (ra, .inl (cI, 256, .inl fA)), (rb, .inl (cI, 256, .inl fB)), (sm, .inr (1, [.ref so])), (so, .inl (cO, 3, .inr (.inr (.inr (.inr g))))), (r0, .inl (cI, 511, .inl (stR R0 (fdq 2 fA fB (ua_3 0) (ub_4 0) (uc_5 0) k 998244353) (cntK 2 k)))), (r1, .inl (cI, 511, .inl (stR R1 (fdq 2 fA fB (ua_3 1) (ub_4 1) (uc_5 1) k 167772161) (cntK 2 k)))), (r2, .inl (cI, 511, .inl (stR R2 (fdq 2 fA fB (ua_3 2) (ub_4 2) (uc_5 2) k 469762049) (cntK 2 k)))), (xo, .inr (2, [.int (nI k), .ref ra, .ref rb, .int (nI (2 * (2 ^ k) - 1)), .ref sm, .ref hh, .ref ps, .ref pb]))] H := hP
        have hD : va_D A [(hh, .inr (0, [.ref lf, .ref rt, .ref rp])), (lf, .inl (cJ, 512, .inr (.inl (fun j => lI ((ua_3 3) j))))), (rt, .inl (cJ, 512, .inr (.inl (fun j => lI ((ub_4 3) j))))), (rp, .inl (cJ, 256, .inr (.inl (fun j => lI ((uc_5 3) j))))), (ra, .inl (cI, 256, .inl fA)), (rb, .inl (cI, 256, .inl fB)), (sm, .inr (1, [.ref so])), (so, .inl (cO, 3, .inr (.inr (.inr (.inr g))))), (r0, .inl (cI, 511, .inl (stR R0 (fdq 2 fA fB (ua_3 0) (ub_4 0) (uc_5 0) k 998244353) (cntK 2 k)))), (r1, .inl (cI, 511, .inl (stR R1 (fdq 2 fA fB (ua_3 1) (ub_4 1) (uc_5 1) k 167772161) (cntK 2 k)))), (r2, .inl (cI, 511, .inl (stR R2 (fdq 2 fA fB (ua_3 2) (ub_4 2) (uc_5 2) k 469762049) (cntK 2 k)))), (xo, .inr (2, [.int (nI k), .ref ra, .ref rb, .int (nI (2 * (2 ^ k) - 1)), .ref sm, .ref hh, .ref ps, .ref pb]))] := hD
        refine lv_aload_n hx hb dX3_fold_67 rfl (lv_at hl 0 rfl) ?_
        refine va_get (D := (dC, dI)) (ci := 2) (v := .int (nI (2 * (2 ^ k) - 1))) (C := RX3) (T := TX3) (N := 8) hx hb hts (by decide +kernel) hown hK hP 11 rfl rfl 3 (by decide) (hts (.fieldLink RX3 20 "ThreePrimes" "results" "I") (by decide +kernel)) (fun _ h9 => h9) rfl dX3_fold_68 ?_
        have hP9 : va_P (dC, dI) vwCl [(xo, .inr (2, [.int (nI k), .ref ra, .ref rb, .int (nI (cntK 2 k)), .ref sm, .ref hh, .ref ps, .ref pb])), (hh, .inr (0, [.ref lf, .ref rt, .ref rp])), (lf, .inl (cJ, 512, .inr (.inl (fun j => lI ((ua_3 3) j))))), (rt, .inl (cJ, 512, .inr (.inl (fun j => lI ((ub_4 3) j))))), (rp, .inl (cJ, 256, .inr (.inl (fun j => lI ((uc_5 3) j))))), (ra, .inl (cI, 256, .inl fA)), (rb, .inl (cI, 256, .inl fB)), (sm, .inr (1, [.ref so])), (so, .inl (cO, 3, .inr (.inr (.inr (.inr g))))), (r0, .inl (cI, 511, .inl (stR R0 (fdq 2 fA fB (ua_3 0) (ub_4 0) (uc_5 0) k 998244353) (cntK 2 k)))), (r1, .inl (cI, 511, .inl (stR R1 (fdq 2 fA fB (ua_3 1) (ub_4 1) (uc_5 1) k 167772161) (cntK 2 k)))), (r2, .inl (cI, 511, .inl (stR R2 (fdq 2 fA fB (ua_3 2) (ub_4 2) (uc_5 2) k 469762049) (cntK 2 k))))] H := hP.sub [11, 0, 1, 2, 3, 4, 5, 6, 7, 8, 9, 10] rfl
        have hD9 : va_D A [(xo, .inr (2, [.int (nI k), .ref ra, .ref rb, .int (nI (cntK 2 k)), .ref sm, .ref hh, .ref ps, .ref pb])), (hh, .inr (0, [.ref lf, .ref rt, .ref rp])), (lf, .inl (cJ, 512, .inr (.inl (fun j => lI ((ua_3 3) j))))), (rt, .inl (cJ, 512, .inr (.inl (fun j => lI ((ub_4 3) j))))), (rp, .inl (cJ, 256, .inr (.inl (fun j => lI ((uc_5 3) j))))), (ra, .inl (cI, 256, .inl fA)), (rb, .inl (cI, 256, .inl fB)), (sm, .inr (1, [.ref so])), (so, .inl (cO, 3, .inr (.inr (.inr (.inr g))))), (r0, .inl (cI, 511, .inl (stR R0 (fdq 2 fA fB (ua_3 0) (ub_4 0) (uc_5 0) k 998244353) (cntK 2 k)))), (r1, .inl (cI, 511, .inl (stR R1 (fdq 2 fA fB (ua_3 1) (ub_4 1) (uc_5 1) k 167772161) (cntK 2 k)))), (r2, .inl (cI, 511, .inl (stR R2 (fdq 2 fA fB (ua_3 2) (ub_4 2) (uc_5 2) k 469762049) (cntK 2 k))))] := hD.sub [11, 0, 1, 2, 3, 4, 5, 6, 7, 8, 9, 10] (by decide) rfl
        exact W.iret (v := nI (2 * (2 ^ k) - 1)) hx hb hr (fun t ht hW => ⟨⟨nI (2 * (2 ^ k) - 1), (ua_3, ub_4, uc_5), rfl, rfl, by rw [ht]; exact hP9, hD9⟩, hS.F ht⟩) hS.2.2 dX3_fold_71
    · have c_2 : ¬ (2 ≤ 2) := fun zq9 => c_2 ((nI_leI (a := 2) (b := 2) (by omega) (by omega)).mpr zq9)
      omega

abbrev q_X3_fold_bad (dC : Nat → ClassId) (dI : Nat → Nat → Nat) (xo ra rb sm hh ps pb k rs : Nat) (i : Int32) (A : Nat → Prop) : Array Value → State → Outcome → State → Prop := va_Qi (fun (r : Int32) (u : Unit) => False) (fun u t => va_P (dC, dI) vwCl [(xo, .inr (2, [.int (nI k), .ref ra, .ref rb, .int (nI rs), .ref sm, .ref hh, .ref ps, .ref pb]))] t.heap ∧ va_D A [(xo, .inr (2, [.int (nI k), .ref ra, .ref rb, .int (nI rs), .ref sm, .ref hh, .ref ps, .ref pb]))]) A
abbrev x_X3_fold_bad (dC : Nat → ClassId) (dI : Nat → Nat → Nat) (xo ra rb sm hh ps pb k rs : Nat) (i : Int32) (A : Nat → Prop) : String → State → State → Prop := vx_X (fun _ : Unit => True) (fun E _ t => (E = "java/lang/IllegalArgumentException") ∧ va_P (dC, dI) vwCl [(xo, .inr (2, [.int (nI k), .ref ra, .ref rb, .int (nI rs), .ref sm, .ref hh, .ref ps, .ref pb]))] t.heap ∧ va_D A [(xo, .inr (2, [.int (nI k), .ref ra, .ref rb, .int (nI rs), .ref sm, .ref hh, .ref ps, .ref pb]))]) A
set_option maxHeartbeats 4000000 in
set_option maxRecDepth 100000 in
theorem c_X3_fold_bad (l : Launch) (dC : Nat → ClassId) (dI : Nat → Nat → Nat) (xo ra rb sm hh ps pb k rs : Nat) (i : Int32) (sz : Nat) (hl9 : l.stackTraces = false) (tP : Nat) (sa : Nat → Nat) (hbad : i < 0 ∨ nI 2 < i) : vx_Met l yX3_fold wsX3_fold ({ frames := 6, cells := 1, slots := 6, locals := 82 }) (va_Pc [.ref xo, .int i] (fun U => U.heap.size = sz ∧ va_P (dC, dI) vwCl [(xo, .inr (2, [.int (nI k), .ref ra, .ref rb, .int (nI rs), .ref sm, .ref hh, .ref ps, .ref pb]))] U.heap ∧ va_K (dC, dI) vwCl [] U ∧ va_D (fun _ => True) [(xo, .inr (2, [.int (nI k), .ref ra, .ref rb, .int (nI rs), .ref sm, .ref hh, .ref ps, .ref pb]))] ∧ amb tP sa (va_A [(xo, .inr (2, [.int (nI k), .ref ra, .ref rb, .int (nI rs), .ref sm, .ref hh, .ref ps, .ref pb]))] sz) U U.heap)) (q_X3_fold_bad dC dI xo ra rb sm hh ps pb k rs i (va_A [(xo, .inr (2, [.int (nI k), .ref ra, .ref rb, .int (nI rs), .ref sm, .ref hh, .ref ps, .ref pb]))] sz)) (x_X3_fold_bad dC dI xo ra rb sm hh ps pb k rs i (va_A [(xo, .inr (2, [.int (nI k), .ref ra, .ref rb, .int (nI rs), .ref sm, .ref hh, .ref ps, .ref pb]))] sz)) 1 6 (va_A [(xo, .inr (2, [.int (nI k), .ref ra, .ref rb, .int (nI rs), .ref sm, .ref hh, .ref ps, .ref pb]))] sz) := by
  refine vx_ofW (cc := cX3_fold) (maxL := 2) (ret := (some .int)) (by decide) rfl ?_
  intro p e s m args below meth c s₁ B hml htab hv
  obtain ⟨rfl, hsz, hP, hK, hD0, hM⟩ := hv
  have hx := B.exec
  have hb := B.bytes
  have hr := B.returns
  have hts := atoms_spec (ws := wsX3_fold) B.pre
  have hown : s.vm.findClass RX3 = some m.cls := findClass_of_methodNamed B.named
  have hlocks := B.notSynchronized
  subst hsz
  have hD := hD0.self (sz := s.heap.size)
  generalize hAe : va_A [(xo, .inr (2, [.int (nI k), .ref ra, .ref rb, .int (nI rs), .ref sm, .ref hh, .ref ps, .ref pb]))] s.heap.size = A at hD hM ⊢
  have hA : ∀ q : Nat, s.heap.size ≤ q → A q := fun q h => by rw [← hAe]; exact Or.inr h
  have hS : va_S A s.heap s.heap [] := va_S.rf
  have hP : va_P (dC, dI) vwCl [(xo, .inr (2, [.int (nI k), .ref ra, .ref rb, .int (nI rs), .ref sm, .ref hh, .ref ps, .ref pb]))] s.heap := hP
  have hl := lv_entry (([.ref xo, .int i] : List Value)) (n := 2) (Nat.le_of_ble_eq_true rfl)
  rw [lg_entry_eq]
  generalize (lg_sl (([.ref xo, .int i] : List Value)) ++ List.replicate (2 - (lg_sl (([.ref xo, .int i] : List Value))).length) Slot.unset).toArray = ls at hl ⊢
  have hl : lv_has ls 2 [(0, .ref xo), (1, .int i)] := hl
  obtain ⟨H, hHe⟩ : ∃ H : Heap, H = s.heap := ⟨_, rfl⟩
  rw [← hHe] at hP
  have hS : va_S A s.heap H [] := by rw [hHe]; exact hS
  obtain ⟨locs, hlo⟩ : ∃ L : List Loc, L = [] := ⟨_, rfl⟩
  rw [← hlo] at hS ⊢
  rw [← hHe]
  refine lv_iload_n hx hb dX3_fold_0 rfl (lv_at hl 1 rfl) ?_
  refine lv_if_lt (tgt := 9) hx hb dX3_fold_1 (by decide) (fun c_1 => ?_) (fun c_1 => ?_)
  · have hat : ∀ w ∈ vx_atS RX3 49 "java/lang/IllegalArgumentException" ["java/lang/RuntimeException", "java/lang/Exception"], w.before _ s = true := vx_hat (fun w hw => hts w (List.mem_cons_of_mem _ (List.mem_append_right _ hw))) (fun w hw => List.mem_append_left _ hw) (fun w hw => by have h9 := List.all_eq_true.mp ngL_ok w hw; simp only [Bool.and_eq_true] at h9; exact va_tabs h9.1 rfl (hM.2.2.1 w hw))
    have hP9 : va_P (dC, dI) vwCl [(xo, .inr (2, [.int (nI k), .ref ra, .ref rb, .int (nI rs), .ref sm, .ref hh, .ref ps, .ref pb]))] H := hP.sub [0] rfl
    have hD9 : va_D A [(xo, .inr (2, [.int (nI k), .ref ra, .ref rb, .int (nI rs), .ref sm, .ref hh, .ref ps, .ref pb]))] := hD.sub [0] (by decide) rfl
    exact vx_throwS hx hb hl9 (own := RX3) (cls := "java/lang/IllegalArgumentException") (text := "kind is not 0 to 2") (names := ["java/lang/RuntimeException", "java/lang/Exception"]) (A := A) hown (by decide +kernel) (by decide +kernel) (hts (.classLink RX3 45 "java/lang/IllegalArgumentException") (by decide +kernel)) (hts (.initialized "java/lang/IllegalArgumentException") (by decide +kernel)) hM.2.1.2.1 hat (by decide +kernel) hM.1.2.2.1 hM.1.2.2.2 hS (hl.1.trans hml.symm) dX3_fold_9 dX3_fold_12 dX3_fold_13 dX3_fold_15 dX3_fold_18 (fun x h => (htab x h).elim) (Nat.le_of_ble_eq_true rfl) (Nat.le_of_ble_eq_true rfl) (Nat.le_of_ble_eq_true rfl) (Nat.le_of_ble_eq_true rfl) hlocks (fun t hal hz hk => ⟨(), trivial, ⟨rfl, kept_P hP9 hk, hD9⟩, kept_F hS hz hk⟩) hS.2.2 (Nat.le_of_ble_eq_true rfl) (Nat.le_of_ble_eq_true rfl)
  · refine lv_iload_n hx hb dX3_fold_4 rfl (lv_at hl 1 rfl) ?_
    refine lv_iconst (v := nI 2) hx hb dX3_fold_5 (by decide) ?_
    refine lv_icmp_le (tgt := 19) hx hb dX3_fold_6 (by decide) (fun c_2 => ?_) (fun c_2 => ?_)
    · exact absurd c_2 (Int32.not_le.mpr (hbad.resolve_left c_1))
    · have hat : ∀ w ∈ vx_atS RX3 49 "java/lang/IllegalArgumentException" ["java/lang/RuntimeException", "java/lang/Exception"], w.before _ s = true := vx_hat (fun w hw => hts w (List.mem_cons_of_mem _ (List.mem_append_right _ hw))) (fun w hw => List.mem_append_left _ hw) (fun w hw => by have h9 := List.all_eq_true.mp ngL_ok w hw; simp only [Bool.and_eq_true] at h9; exact va_tabs h9.1 rfl (hM.2.2.1 w hw))
      have hP9 : va_P (dC, dI) vwCl [(xo, .inr (2, [.int (nI k), .ref ra, .ref rb, .int (nI rs), .ref sm, .ref hh, .ref ps, .ref pb]))] H := hP.sub [0] rfl
      have hD9 : va_D A [(xo, .inr (2, [.int (nI k), .ref ra, .ref rb, .int (nI rs), .ref sm, .ref hh, .ref ps, .ref pb]))] := hD.sub [0] (by decide) rfl
      exact vx_throwS hx hb hl9 (own := RX3) (cls := "java/lang/IllegalArgumentException") (text := "kind is not 0 to 2") (names := ["java/lang/RuntimeException", "java/lang/Exception"]) (A := A) hown (by decide +kernel) (by decide +kernel) (hts (.classLink RX3 45 "java/lang/IllegalArgumentException") (by decide +kernel)) (hts (.initialized "java/lang/IllegalArgumentException") (by decide +kernel)) hM.2.1.2.1 hat (by decide +kernel) hM.1.2.2.1 hM.1.2.2.2 hS (hl.1.trans hml.symm) dX3_fold_9 dX3_fold_12 dX3_fold_13 dX3_fold_15 dX3_fold_18 (fun x h => (htab x h).elim) (Nat.le_of_ble_eq_true rfl) (Nat.le_of_ble_eq_true rfl) (Nat.le_of_ble_eq_true rfl) (Nat.le_of_ble_eq_true rfl) hlocks (fun t hal hz hk => ⟨(), trivial, ⟨rfl, kept_P hP9 hk, hD9⟩, kept_F hS hz hk⟩) hS.2.2 (Nat.le_of_ble_eq_true rfl) (Nat.le_of_ble_eq_true rfl)

abbrev q_X3_low_ok (dC : Nat → ClassId) (dI : Nat → Nat → Nat) (xo ra rb sm hh ps pb k rs : Nat) (cI cO : ClassId) (so r0 r1 r2 : Nat) (g : Nat → Option Nat) (R0 R1 R2 : Nat → Int32) (j : Nat) (A : Nat → Prop) : Array Value → State → Outcome → State → Prop := va_Ql (fun (r : Int64) (u : Unit) => r = lI (lowZ (R0 j).toInt (R1 j).toInt (R2 j).toInt)) (fun u t => va_P (dC, dI) vwCl [(xo, .inr (2, [.int (nI k), .ref ra, .ref rb, .int (nI rs), .ref sm, .ref hh, .ref ps, .ref pb])), (sm, .inr (1, [.ref so])), (so, .inl (cO, 3, .inr (.inr (.inr (.inr g))))), (r0, .inl (cI, 511, .inl R0)), (r1, .inl (cI, 511, .inl R1)), (r2, .inl (cI, 511, .inl R2))] t.heap ∧ va_D A [(xo, .inr (2, [.int (nI k), .ref ra, .ref rb, .int (nI rs), .ref sm, .ref hh, .ref ps, .ref pb])), (sm, .inr (1, [.ref so])), (so, .inl (cO, 3, .inr (.inr (.inr (.inr g))))), (r0, .inl (cI, 511, .inl R0)), (r1, .inl (cI, 511, .inl R1)), (r2, .inl (cI, 511, .inl R2))]) A
set_option maxHeartbeats 4000000 in
set_option maxRecDepth 100000 in
theorem c_X3_low_ok (l : Launch) (dC : Nat → ClassId) (dI : Nat → Nat → Nat) (xo ra rb sm hh ps pb k rs : Nat) (cI cO : ClassId) (so r0 r1 r2 : Nat) (g : Nat → Option Nat) (R0 R1 R2 : Nat → Int32) (j : Nat) (sz : Nat) (hg0 : g 0 = some r0) (hg1 : g 1 = some r1) (hg2 : g 2 = some r2) (zj : j < rs) (zrs : rs ≤ 511) : Met l yX3_low wsX3_low ({ frames := 3, cells := 0, slots := 0, locals := 74 }) (va_Pc [.ref xo, .int (nI j)] (fun U => U.heap.size = sz ∧ va_P (dC, dI) vwCl [(xo, .inr (2, [.int (nI k), .ref ra, .ref rb, .int (nI rs), .ref sm, .ref hh, .ref ps, .ref pb])), (sm, .inr (1, [.ref so])), (so, .inl (cO, 3, .inr (.inr (.inr (.inr g))))), (r0, .inl (cI, 511, .inl R0)), (r1, .inl (cI, 511, .inl R1)), (r2, .inl (cI, 511, .inl R2))] U.heap ∧ va_K (dC, dI) vwCl [(cI, .int), (cO, .array .int)] U ∧ va_D (fun _ => True) [(xo, .inr (2, [.int (nI k), .ref ra, .ref rb, .int (nI rs), .ref sm, .ref hh, .ref ps, .ref pb])), (sm, .inr (1, [.ref so])), (so, .inl (cO, 3, .inr (.inr (.inr (.inr g))))), (r0, .inl (cI, 511, .inl R0)), (r1, .inl (cI, 511, .inl R1)), (r2, .inl (cI, 511, .inl R2))])) (q_X3_low_ok dC dI xo ra rb sm hh ps pb k rs cI cO so r0 r1 r2 g R0 R1 R2 j (va_A [(xo, .inr (2, [.int (nI k), .ref ra, .ref rb, .int (nI rs), .ref sm, .ref hh, .ref ps, .ref pb])), (sm, .inr (1, [.ref so])), (so, .inl (cO, 3, .inr (.inr (.inr (.inr g))))), (r0, .inl (cI, 511, .inl R0)), (r1, .inl (cI, 511, .inl R1)), (r2, .inl (cI, 511, .inl R2))] sz)) 0 0 (va_A [(xo, .inr (2, [.int (nI k), .ref ra, .ref rb, .int (nI rs), .ref sm, .ref hh, .ref ps, .ref pb])), (sm, .inr (1, [.ref so])), (so, .inl (cO, 3, .inr (.inr (.inr (.inr g))))), (r0, .inl (cI, 511, .inl R0)), (r1, .inl (cI, 511, .inl R1)), (r2, .inl (cI, 511, .inl R2))] sz) := by
  refine Met.ofW (cc := cX3_low) (maxL := 2) (ret := (some .long)) (by decide) rfl ?_
  intro p e s m args below meth c s₁ B hml hv
  obtain ⟨rfl, hsz, hP, hK, hD0⟩ := hv
  have hx := B.exec
  have hb := B.bytes
  have hr := B.returns
  have hts := atoms_spec (ws := wsX3_low) B.pre
  have hown : s.vm.findClass RX3 = some m.cls := findClass_of_methodNamed B.named
  have hlocks := B.notSynchronized
  subst hsz
  have hD := hD0.self (sz := s.heap.size)
  generalize hAe : va_A [(xo, .inr (2, [.int (nI k), .ref ra, .ref rb, .int (nI rs), .ref sm, .ref hh, .ref ps, .ref pb])), (sm, .inr (1, [.ref so])), (so, .inl (cO, 3, .inr (.inr (.inr (.inr g))))), (r0, .inl (cI, 511, .inl R0)), (r1, .inl (cI, 511, .inl R1)), (r2, .inl (cI, 511, .inl R2))] s.heap.size = A at hD ⊢
  have hA : ∀ q : Nat, s.heap.size ≤ q → A q := fun q h => by rw [← hAe]; exact Or.inr h
  have hS : va_S A s.heap s.heap [] := va_S.rf
  have hP : va_P (dC, dI) vwCl [(xo, .inr (2, [.int (nI k), .ref ra, .ref rb, .int (nI rs), .ref sm, .ref hh, .ref ps, .ref pb])), (sm, .inr (1, [.ref so])), (so, .inl (cO, 3, .inr (.inr (.inr (.inr g))))), (r0, .inl (cI, 511, .inl R0)), (r1, .inl (cI, 511, .inl R1)), (r2, .inl (cI, 511, .inl R2))] s.heap := hP
  have hl := lv_entry (([.ref xo, .int (nI j)] : List Value)) (n := 2) (Nat.le_of_ble_eq_true rfl)
  rw [lg_entry_eq]
  generalize (lg_sl (([.ref xo, .int (nI j)] : List Value)) ++ List.replicate (2 - (lg_sl (([.ref xo, .int (nI j)] : List Value))).length) Slot.unset).toArray = ls at hl ⊢
  have hl : lv_has ls 2 [(0, .ref xo), (1, .int (nI j))] := hl
  obtain ⟨H, hHe⟩ : ∃ H : Heap, H = s.heap := ⟨_, rfl⟩
  rw [← hHe] at hP
  have hS : va_S A s.heap H [] := by rw [hHe]; exact hS
  obtain ⟨locs, hlo⟩ : ∃ L : List Loc, L = [] := ⟨_, rfl⟩
  rw [← hlo] at hS ⊢
  rw [← hHe]
  refine lv_aload_n hx hb dX3_low_0 rfl (lv_at hl 0 rfl) ?_
  refine lv_iload_n hx hb dX3_low_1 rfl (lv_at hl 1 rfl) ?_
  have hPc := hP.sub (ws' := [(xo, .inr (2, [.int (nI k), .ref ra, .ref rb, .int (nI rs), .ref sm, .ref hh, .ref ps, .ref pb]))]) [0] rfl
  have hDc := hD.sub (ws' := [(xo, .inr (2, [.int (nI k), .ref ra, .ref rb, .int (nI rs), .ref sm, .ref hh, .ref ps, .ref pb]))]) [0] (by decide) rfl
  have hKc := hK.sub (tys' := []) [] rfl
  have hFc := va_free (wc := [(xo, .inr (2, [.int (nI k), .ref ra, .ref rb, .int (nI rs), .ref sm, .ref hh, .ref ps, .ref pb]))]) hD hS hA [0] rfl
  refine va_callv (va_runV (As := [.int (nI j)]) (rest := []) ⟨hx, hb, hml, hown, hts⟩ (c_X3_requireResult_ok l dC dI xo ra rb sm hh ps pb k rs j H.size (by omega) (by omega)) (cwV 1 hts gX3_low_X3_requireResult rfl rfl rfl (by decide +kernel) ⟨Nat.le_of_ble_eq_true rfl, Nat.le_of_ble_eq_true rfl⟩) ⟨fun a U g mk q => by obtain ⟨q0, q1, qP, qK, qD⟩ := q; exact ⟨q0, q1, qP, va_K.moved (u := U) (U := U.calling g mk a) (Vm.Alike.refl U.vm) qK, qD⟩, va_recv hKc hPc (ci := 2) (q0 := 0) rfl rfl, fun U hU hW => ⟨rfl, by rw [hU], by rw [hU]; exact hPc, va_K.moved hW.alike hKc, hDc.weaken (fun _ _ _ _ => trivial)⟩⟩ rfl rfl hl.1 rfl (lv_room (Nat.le_of_ble_eq_true rfl)) dX3_low_2 ⟨Nat.le_of_ble_eq_true rfl, Nat.le_of_ble_eq_true rfl⟩) hS (fun q _ h => hFc q h) hFc (fun u9 t9 H1 locs ht hvm hw hB hz1 hk1 hS => ?_)
  obtain ⟨hP1, hD1⟩ := hB
  rw [ht] at hP1
  try dsimp only at hw
  obtain ⟨hP, hD⟩ := va_join (wr := [(sm, .inr (1, [.ref so])), (so, .inl (cO, 3, .inr (.inr (.inr (.inr g))))), (r0, .inl (cI, 511, .inl R0)), (r1, .inl (cI, 511, .inl R1)), (r2, .inl (cI, 511, .inl R2))]) (w1 := [(xo, .inr (2, [.int (nI k), .ref ra, .ref rb, .int (nI rs), .ref sm, .ref hh, .ref ps, .ref pb]))]) hP hD [0] [1, 2, 3, 4, 5] rfl rfl (by decide) (by decide) hk1 hFc hP1 hD1
  generalize H1 = H at hP hS ⊢
  have hP : va_P (dC, dI) vwCl [(sm, .inr (1, [.ref so])), (so, .inl (cO, 3, .inr (.inr (.inr (.inr g))))), (r0, .inl (cI, 511, .inl R0)), (r1, .inl (cI, 511, .inl R1)), (r2, .inl (cI, 511, .inl R2)), (xo, .inr (2, [.int (nI k), .ref ra, .ref rb, .int (nI rs), .ref sm, .ref hh, .ref ps, .ref pb]))] H := hP
  have hD : va_D A [(sm, .inr (1, [.ref so])), (so, .inl (cO, 3, .inr (.inr (.inr (.inr g))))), (r0, .inl (cI, 511, .inl R0)), (r1, .inl (cI, 511, .inl R1)), (r2, .inl (cI, 511, .inl R2)), (xo, .inr (2, [.int (nI k), .ref ra, .ref rb, .int (nI rs), .ref sm, .ref hh, .ref ps, .ref pb]))] := hD
  clear hPc hDc hKc hFc hP1 hD1 hk1 hz1 hvm ht
  clear hw
  refine lv_aload_n hx hb dX3_low_5 rfl (lv_at hl 0 rfl) ?_
  refine va_get (D := (dC, dI)) (ci := 2) (v := .ref sm) (C := RX3) (T := TX3) (N := 8) hx hb hts (by decide +kernel) hown hK hP 5 rfl rfl 4 (by decide) (hts (.fieldLink RX3 28 "ThreePrimes" "sums" "LThreePrimes$Sums;") (by decide +kernel)) (fun _ h9 => h9) rfl dX3_low_6 ?_
  refine lv_iload_n hx hb dX3_low_9 rfl (lv_at hl 1 rfl) ?_
  have hPc := hP.sub (ws' := [(sm, .inr (1, [.ref so])), (so, .inl (cO, 3, .inr (.inr (.inr (.inr g))))), (r0, .inl (cI, 511, .inl R0)), (r1, .inl (cI, 511, .inl R1)), (r2, .inl (cI, 511, .inl R2))]) [0, 1, 2, 3, 4] rfl
  have hDc := hD.sub (ws' := [(sm, .inr (1, [.ref so])), (so, .inl (cO, 3, .inr (.inr (.inr (.inr g))))), (r0, .inl (cI, 511, .inl R0)), (r1, .inl (cI, 511, .inl R1)), (r2, .inl (cI, 511, .inl R2))]) [0, 1, 2, 3, 4] (by decide) rfl
  have hKc := hK.sub (tys' := [(cI, .int), (cO, .array .int)]) [0, 1] rfl
  have hFc := va_free (wc := [(sm, .inr (1, [.ref so])), (so, .inl (cO, 3, .inr (.inr (.inr (.inr g))))), (r0, .inl (cI, 511, .inl R0)), (r1, .inl (cI, 511, .inl R1)), (r2, .inl (cI, 511, .inl R2))]) hD hS hA [0, 1, 2, 3, 4] rfl
  refine va_calll (va_runV (As := [.int (nI j)]) (rest := []) ⟨hx, hb, hml, hown, hts⟩ (c_X2_lowest64Bits l dC dI cI cO sm so r0 r1 r2 g R0 R1 R2 511  j  H.size hg0 hg1 hg2 (by omega) (by omega)) (cwV 1 hts gX3_low_X2_lowest64Bits rfl rfl rfl (by decide +kernel) ⟨Nat.le_of_ble_eq_true rfl, Nat.le_of_ble_eq_true rfl⟩) ⟨fun a U g mk q => by obtain ⟨q0, q1, qP, qK, qD⟩ := q; exact ⟨q0, q1, qP, va_K.moved (u := U) (U := U.calling g mk a) (Vm.Alike.refl U.vm) qK, qD⟩, va_recv hKc hPc (ci := 1) (q0 := 0) rfl rfl, fun U hU hW => ⟨rfl, by rw [hU], by rw [hU]; exact hPc, va_K.moved hW.alike hKc, hDc.weaken (fun _ _ _ _ => trivial)⟩⟩ rfl rfl hl.1 rfl (lv_room (Nat.le_of_ble_eq_true rfl)) dX3_low_10 ⟨Nat.le_of_ble_eq_true rfl, Nat.le_of_ble_eq_true rfl⟩) hS (fun q _ h => hFc q h) hFc (fun r9 u9 t9 H1 locs ht hvm hw hB hz1 hk1 hS => ?_)
  obtain ⟨hP1, hD1⟩ := hB
  rw [ht] at hP1
  try dsimp only at hw
  obtain ⟨hP, hD⟩ := va_join (wr := [(xo, .inr (2, [.int (nI k), .ref ra, .ref rb, .int (nI rs), .ref sm, .ref hh, .ref ps, .ref pb]))]) (w1 := [(sm, .inr (1, [.ref so])), (so, .inl (cO, 3, .inr (.inr (.inr (.inr g))))), (r0, .inl (cI, 511, .inl R0)), (r1, .inl (cI, 511, .inl R1)), (r2, .inl (cI, 511, .inl R2))]) hP hD [0, 1, 2, 3, 4] [5] rfl rfl (by decide) (by decide) hk1 hFc hP1 hD1
  generalize H1 = H at hP hS ⊢
  have hP : va_P (dC, dI) vwCl [(xo, .inr (2, [.int (nI k), .ref ra, .ref rb, .int (nI rs), .ref sm, .ref hh, .ref ps, .ref pb])), (sm, .inr (1, [.ref so])), (so, .inl (cO, 3, .inr (.inr (.inr (.inr g))))), (r0, .inl (cI, 511, .inl R0)), (r1, .inl (cI, 511, .inl R1)), (r2, .inl (cI, 511, .inl R2))] H := hP
  have hD : va_D A [(xo, .inr (2, [.int (nI k), .ref ra, .ref rb, .int (nI rs), .ref sm, .ref hh, .ref ps, .ref pb])), (sm, .inr (1, [.ref so])), (so, .inl (cO, 3, .inr (.inr (.inr (.inr g))))), (r0, .inl (cI, 511, .inl R0)), (r1, .inl (cI, 511, .inl R1)), (r2, .inl (cI, 511, .inl R2))] := hD
  clear hPc hDc hKc hFc hP1 hD1 hk1 hz1 hvm ht
  subst hw
  have hP9 : va_P (dC, dI) vwCl [(xo, .inr (2, [.int (nI k), .ref ra, .ref rb, .int (nI rs), .ref sm, .ref hh, .ref ps, .ref pb])), (sm, .inr (1, [.ref so])), (so, .inl (cO, 3, .inr (.inr (.inr (.inr g))))), (r0, .inl (cI, 511, .inl R0)), (r1, .inl (cI, 511, .inl R1)), (r2, .inl (cI, 511, .inl R2))] H := hP.sub [0, 1, 2, 3, 4, 5] rfl
  have hD9 : va_D A [(xo, .inr (2, [.int (nI k), .ref ra, .ref rb, .int (nI rs), .ref sm, .ref hh, .ref ps, .ref pb])), (sm, .inr (1, [.ref so])), (so, .inl (cO, 3, .inr (.inr (.inr (.inr g))))), (r0, .inl (cI, 511, .inl R0)), (r1, .inl (cI, 511, .inl R1)), (r2, .inl (cI, 511, .inl R2))] := hD.sub [0, 1, 2, 3, 4, 5] (by decide) rfl
  exact W.lret (v := lI (lowZ (R0 j).toInt (R1 j).toInt (R2 j).toInt)) hx hb hr (fun t ht hW => ⟨⟨lI (lowZ (R0 j).toInt (R1 j).toInt (R2 j).toInt), (), rfl, rfl, by rw [ht]; exact hP9, hD9⟩, hS.F ht⟩) hS.2.2 dX3_low_13

abbrev q_X3_low_bad (dC : Nat → ClassId) (dI : Nat → Nat → Nat) (xo ra rb sm hh ps pb k rs : Nat) (i : Int32) (A : Nat → Prop) : Array Value → State → Outcome → State → Prop := va_Ql (fun (r : Int64) (u : Unit) => False) (fun u t => va_P (dC, dI) vwCl [(xo, .inr (2, [.int (nI k), .ref ra, .ref rb, .int (nI rs), .ref sm, .ref hh, .ref ps, .ref pb]))] t.heap ∧ va_D A [(xo, .inr (2, [.int (nI k), .ref ra, .ref rb, .int (nI rs), .ref sm, .ref hh, .ref ps, .ref pb]))]) A
abbrev x_X3_low_bad (dC : Nat → ClassId) (dI : Nat → Nat → Nat) (xo ra rb sm hh ps pb k rs : Nat) (i : Int32) (A : Nat → Prop) : String → State → State → Prop := vx_X (fun _ : Unit => True) (fun E _ t => (E = "java/lang/IndexOutOfBoundsException") ∧ va_P (dC, dI) vwCl [(xo, .inr (2, [.int (nI k), .ref ra, .ref rb, .int (nI rs), .ref sm, .ref hh, .ref ps, .ref pb]))] t.heap ∧ va_D A [(xo, .inr (2, [.int (nI k), .ref ra, .ref rb, .int (nI rs), .ref sm, .ref hh, .ref ps, .ref pb]))]) A
set_option maxHeartbeats 4000000 in
set_option maxRecDepth 100000 in
theorem c_X3_low_bad (l : Launch) (dC : Nat → ClassId) (dI : Nat → Nat → Nat) (xo ra rb sm hh ps pb k rs : Nat) (i : Int32) (sz : Nat) (hl9 : l.stackTraces = false) (tP : Nat) (sa : Nat → Nat) (hbad : i < 0 ∨ nI rs ≤ i) : vx_Met l yX3_low wsX3_low ({ frames := 7, cells := 1, slots := 6, locals := 103 }) (va_Pc [.ref xo, .int i] (fun U => U.heap.size = sz ∧ va_P (dC, dI) vwCl [(xo, .inr (2, [.int (nI k), .ref ra, .ref rb, .int (nI rs), .ref sm, .ref hh, .ref ps, .ref pb]))] U.heap ∧ va_K (dC, dI) vwCl [] U ∧ va_D (fun _ => True) [(xo, .inr (2, [.int (nI k), .ref ra, .ref rb, .int (nI rs), .ref sm, .ref hh, .ref ps, .ref pb]))] ∧ amb tP sa (va_A [(xo, .inr (2, [.int (nI k), .ref ra, .ref rb, .int (nI rs), .ref sm, .ref hh, .ref ps, .ref pb]))] sz) U U.heap)) (q_X3_low_bad dC dI xo ra rb sm hh ps pb k rs i (va_A [(xo, .inr (2, [.int (nI k), .ref ra, .ref rb, .int (nI rs), .ref sm, .ref hh, .ref ps, .ref pb]))] sz)) (x_X3_low_bad dC dI xo ra rb sm hh ps pb k rs i (va_A [(xo, .inr (2, [.int (nI k), .ref ra, .ref rb, .int (nI rs), .ref sm, .ref hh, .ref ps, .ref pb]))] sz)) 1 6 (va_A [(xo, .inr (2, [.int (nI k), .ref ra, .ref rb, .int (nI rs), .ref sm, .ref hh, .ref ps, .ref pb]))] sz) := by
  refine vx_ofW (cc := cX3_low) (maxL := 2) (ret := (some .long)) (by decide) rfl ?_
  intro p e s m args below meth c s₁ B hml htab hv
  obtain ⟨rfl, hsz, hP, hK, hD0, hM⟩ := hv
  have hx := B.exec
  have hb := B.bytes
  have hr := B.returns
  have hts := atoms_spec (ws := wsX3_low) B.pre
  have hown : s.vm.findClass RX3 = some m.cls := findClass_of_methodNamed B.named
  have hlocks := B.notSynchronized
  subst hsz
  have hD := hD0.self (sz := s.heap.size)
  generalize hAe : va_A [(xo, .inr (2, [.int (nI k), .ref ra, .ref rb, .int (nI rs), .ref sm, .ref hh, .ref ps, .ref pb]))] s.heap.size = A at hD hM ⊢
  have hA : ∀ q : Nat, s.heap.size ≤ q → A q := fun q h => by rw [← hAe]; exact Or.inr h
  have hS : va_S A s.heap s.heap [] := va_S.rf
  have hP : va_P (dC, dI) vwCl [(xo, .inr (2, [.int (nI k), .ref ra, .ref rb, .int (nI rs), .ref sm, .ref hh, .ref ps, .ref pb]))] s.heap := hP
  have hl := lv_entry (([.ref xo, .int i] : List Value)) (n := 2) (Nat.le_of_ble_eq_true rfl)
  rw [lg_entry_eq]
  generalize (lg_sl (([.ref xo, .int i] : List Value)) ++ List.replicate (2 - (lg_sl (([.ref xo, .int i] : List Value))).length) Slot.unset).toArray = ls at hl ⊢
  have hl : lv_has ls 2 [(0, .ref xo), (1, .int i)] := hl
  obtain ⟨H, hHe⟩ : ∃ H : Heap, H = s.heap := ⟨_, rfl⟩
  rw [← hHe] at hP
  have hS : va_S A s.heap H [] := by rw [hHe]; exact hS
  obtain ⟨locs, hlo⟩ : ∃ L : List Loc, L = [] := ⟨_, rfl⟩
  rw [← hlo] at hS ⊢
  rw [← hHe]
  refine lv_aload_n hx hb dX3_low_0 rfl (lv_at hl 0 rfl) ?_
  refine lv_iload_n hx hb dX3_low_1 rfl (lv_at hl 1 rfl) ?_
  have hPc := hP.sub (ws' := [(xo, .inr (2, [.int (nI k), .ref ra, .ref rb, .int (nI rs), .ref sm, .ref hh, .ref ps, .ref pb]))]) [0] rfl
  have hDc := hD.sub (ws' := [(xo, .inr (2, [.int (nI k), .ref ra, .ref rb, .int (nI rs), .ref sm, .ref hh, .ref ps, .ref pb]))]) [0] (by decide) rfl
  have hKc := hK.sub (tys' := []) [] rfl
  have hFc := va_free (wc := [(xo, .inr (2, [.int (nI k), .ref ra, .ref rb, .int (nI rs), .ref sm, .ref hh, .ref ps, .ref pb]))]) hD hS hA [0] rfl
  refine vx_callv (vx_runV (As := [.int i]) (rest := []) ⟨hx, hb, hml, hown, hts⟩ (c_X3_requireResult_bad l dC dI xo ra rb sm hh ps pb k rs i H.size hl9 tP sa hbad) (cwV 1 hts gX3_low_X3_requireResult rfl rfl rfl (by decide +kernel) ⟨Nat.le_of_ble_eq_true rfl, Nat.le_of_ble_eq_true rfl⟩) ⟨fun a U g mk q => by obtain ⟨q0, q1, qP, qK, qD, qM⟩ := q; exact ⟨q0, q1, qP, va_K.moved (u := U) (U := U.calling g mk a) (Vm.Alike.refl U.vm) qK, qD, amb_same (U := U) (U' := U.calling g mk a) rfl rfl qM⟩, va_recv hKc hPc (ci := 2) (q0 := 0) rfl rfl, fun U hU hW => ⟨rfl, by rw [hU], by rw [hU]; exact hPc, va_K.moved hW.alike hKc, hDc.weaken (fun _ _ _ _ => trivial), amb_pass hM hS hFc hW hU⟩⟩ rfl rfl hl.1 rfl (lv_room (Nat.le_of_ble_eq_true rfl)) dX3_low_2 ⟨Nat.le_of_ble_eq_true rfl, Nat.le_of_ble_eq_true rfl⟩) hS (fun q _ h => hFc q h) hFc (fun q _ h => hFc q h) (fun E9 ce9 q9 u9 t9 H1 locs ht hvm hw hB hz1 hk1 hS hce hcv hcl => ?_) (fun u9 t9 H1 locs ht hvm hw hB hz1 hk1 hS => ?_)
  · obtain ⟨hxp, hP1, hD1⟩ := hB
    rw [ht] at hP1
    obtain ⟨hP, hD⟩ := va_join (wr := []) (w1 := [(xo, .inr (2, [.int (nI k), .ref ra, .ref rb, .int (nI rs), .ref sm, .ref hh, .ref ps, .ref pb]))]) hP hD [0] [] rfl rfl (by decide) (by decide) hk1 hFc hP1 hD1
    have hP9 : va_P (dC, dI) vwCl [(xo, .inr (2, [.int (nI k), .ref ra, .ref rb, .int (nI rs), .ref sm, .ref hh, .ref ps, .ref pb]))] H1 := hP.sub [0] rfl
    have hD9 : va_D A [(xo, .inr (2, [.int (nI k), .ref ra, .ref rb, .int (nI rs), .ref sm, .ref hh, .ref ps, .ref pb]))] := hD.sub [0] (by decide) rfl
    exact vx_out (E := E9) (fun x h => (htab x h).elim) hlocks hce hcv hcl (fun t ht9 hal => ⟨(), trivial, ⟨hxp, by rw [ht9]; exact hP9, hD9⟩, hS.F ht9⟩) hS.2.2 (Nat.le_of_ble_eq_true rfl) (Nat.le_of_ble_eq_true rfl)
  exact hw.elim

abbrev q_X3_high_ok (dC : Nat → ClassId) (dI : Nat → Nat → Nat) (xo ra rb sm hh ps pb k rs : Nat) (cI cO : ClassId) (so r0 r1 r2 : Nat) (g : Nat → Option Nat) (R0 R1 R2 : Nat → Int32) (j : Nat) (A : Nat → Prop) : Array Value → State → Outcome → State → Prop := va_Qi (fun (r : Int32) (u : Unit) => r = iI (highZ (R0 j).toInt (R1 j).toInt (R2 j).toInt)) (fun u t => va_P (dC, dI) vwCl [(xo, .inr (2, [.int (nI k), .ref ra, .ref rb, .int (nI rs), .ref sm, .ref hh, .ref ps, .ref pb])), (sm, .inr (1, [.ref so])), (so, .inl (cO, 3, .inr (.inr (.inr (.inr g))))), (r0, .inl (cI, 511, .inl R0)), (r1, .inl (cI, 511, .inl R1)), (r2, .inl (cI, 511, .inl R2))] t.heap ∧ va_D A [(xo, .inr (2, [.int (nI k), .ref ra, .ref rb, .int (nI rs), .ref sm, .ref hh, .ref ps, .ref pb])), (sm, .inr (1, [.ref so])), (so, .inl (cO, 3, .inr (.inr (.inr (.inr g))))), (r0, .inl (cI, 511, .inl R0)), (r1, .inl (cI, 511, .inl R1)), (r2, .inl (cI, 511, .inl R2))]) A
set_option maxHeartbeats 4000000 in
set_option maxRecDepth 100000 in
theorem c_X3_high_ok (l : Launch) (dC : Nat → ClassId) (dI : Nat → Nat → Nat) (xo ra rb sm hh ps pb k rs : Nat) (cI cO : ClassId) (so r0 r1 r2 : Nat) (g : Nat → Option Nat) (R0 R1 R2 : Nat → Int32) (j : Nat) (sz : Nat) (hg0 : g 0 = some r0) (hg1 : g 1 = some r1) (hg2 : g 2 = some r2) (zj : j < rs) (zrs : rs ≤ 511) : Met l yX3_high wsX3_high ({ frames := 3, cells := 0, slots := 0, locals := 80 }) (va_Pc [.ref xo, .int (nI j)] (fun U => U.heap.size = sz ∧ va_P (dC, dI) vwCl [(xo, .inr (2, [.int (nI k), .ref ra, .ref rb, .int (nI rs), .ref sm, .ref hh, .ref ps, .ref pb])), (sm, .inr (1, [.ref so])), (so, .inl (cO, 3, .inr (.inr (.inr (.inr g))))), (r0, .inl (cI, 511, .inl R0)), (r1, .inl (cI, 511, .inl R1)), (r2, .inl (cI, 511, .inl R2))] U.heap ∧ va_K (dC, dI) vwCl [(cI, .int), (cO, .array .int)] U ∧ va_D (fun _ => True) [(xo, .inr (2, [.int (nI k), .ref ra, .ref rb, .int (nI rs), .ref sm, .ref hh, .ref ps, .ref pb])), (sm, .inr (1, [.ref so])), (so, .inl (cO, 3, .inr (.inr (.inr (.inr g))))), (r0, .inl (cI, 511, .inl R0)), (r1, .inl (cI, 511, .inl R1)), (r2, .inl (cI, 511, .inl R2))])) (q_X3_high_ok dC dI xo ra rb sm hh ps pb k rs cI cO so r0 r1 r2 g R0 R1 R2 j (va_A [(xo, .inr (2, [.int (nI k), .ref ra, .ref rb, .int (nI rs), .ref sm, .ref hh, .ref ps, .ref pb])), (sm, .inr (1, [.ref so])), (so, .inl (cO, 3, .inr (.inr (.inr (.inr g))))), (r0, .inl (cI, 511, .inl R0)), (r1, .inl (cI, 511, .inl R1)), (r2, .inl (cI, 511, .inl R2))] sz)) 0 0 (va_A [(xo, .inr (2, [.int (nI k), .ref ra, .ref rb, .int (nI rs), .ref sm, .ref hh, .ref ps, .ref pb])), (sm, .inr (1, [.ref so])), (so, .inl (cO, 3, .inr (.inr (.inr (.inr g))))), (r0, .inl (cI, 511, .inl R0)), (r1, .inl (cI, 511, .inl R1)), (r2, .inl (cI, 511, .inl R2))] sz) := by
  refine Met.ofW (cc := cX3_high) (maxL := 2) (ret := (some .int)) (by decide) rfl ?_
  intro p e s m args below meth c s₁ B hml hv
  obtain ⟨rfl, hsz, hP, hK, hD0⟩ := hv
  have hx := B.exec
  have hb := B.bytes
  have hr := B.returns
  have hts := atoms_spec (ws := wsX3_high) B.pre
  have hown : s.vm.findClass RX3 = some m.cls := findClass_of_methodNamed B.named
  have hlocks := B.notSynchronized
  subst hsz
  have hD := hD0.self (sz := s.heap.size)
  generalize hAe : va_A [(xo, .inr (2, [.int (nI k), .ref ra, .ref rb, .int (nI rs), .ref sm, .ref hh, .ref ps, .ref pb])), (sm, .inr (1, [.ref so])), (so, .inl (cO, 3, .inr (.inr (.inr (.inr g))))), (r0, .inl (cI, 511, .inl R0)), (r1, .inl (cI, 511, .inl R1)), (r2, .inl (cI, 511, .inl R2))] s.heap.size = A at hD ⊢
  have hA : ∀ q : Nat, s.heap.size ≤ q → A q := fun q h => by rw [← hAe]; exact Or.inr h
  have hS : va_S A s.heap s.heap [] := va_S.rf
  have hP : va_P (dC, dI) vwCl [(xo, .inr (2, [.int (nI k), .ref ra, .ref rb, .int (nI rs), .ref sm, .ref hh, .ref ps, .ref pb])), (sm, .inr (1, [.ref so])), (so, .inl (cO, 3, .inr (.inr (.inr (.inr g))))), (r0, .inl (cI, 511, .inl R0)), (r1, .inl (cI, 511, .inl R1)), (r2, .inl (cI, 511, .inl R2))] s.heap := hP
  have hl := lv_entry (([.ref xo, .int (nI j)] : List Value)) (n := 2) (Nat.le_of_ble_eq_true rfl)
  rw [lg_entry_eq]
  generalize (lg_sl (([.ref xo, .int (nI j)] : List Value)) ++ List.replicate (2 - (lg_sl (([.ref xo, .int (nI j)] : List Value))).length) Slot.unset).toArray = ls at hl ⊢
  have hl : lv_has ls 2 [(0, .ref xo), (1, .int (nI j))] := hl
  obtain ⟨H, hHe⟩ : ∃ H : Heap, H = s.heap := ⟨_, rfl⟩
  rw [← hHe] at hP
  have hS : va_S A s.heap H [] := by rw [hHe]; exact hS
  obtain ⟨locs, hlo⟩ : ∃ L : List Loc, L = [] := ⟨_, rfl⟩
  rw [← hlo] at hS ⊢
  rw [← hHe]
  refine lv_aload_n hx hb dX3_high_0 rfl (lv_at hl 0 rfl) ?_
  refine lv_iload_n hx hb dX3_high_1 rfl (lv_at hl 1 rfl) ?_
  have hPc := hP.sub (ws' := [(xo, .inr (2, [.int (nI k), .ref ra, .ref rb, .int (nI rs), .ref sm, .ref hh, .ref ps, .ref pb]))]) [0] rfl
  have hDc := hD.sub (ws' := [(xo, .inr (2, [.int (nI k), .ref ra, .ref rb, .int (nI rs), .ref sm, .ref hh, .ref ps, .ref pb]))]) [0] (by decide) rfl
  have hKc := hK.sub (tys' := []) [] rfl
  have hFc := va_free (wc := [(xo, .inr (2, [.int (nI k), .ref ra, .ref rb, .int (nI rs), .ref sm, .ref hh, .ref ps, .ref pb]))]) hD hS hA [0] rfl
  refine va_callv (va_runV (As := [.int (nI j)]) (rest := []) ⟨hx, hb, hml, hown, hts⟩ (c_X3_requireResult_ok l dC dI xo ra rb sm hh ps pb k rs j H.size (by omega) (by omega)) (cwV 1 hts gX3_high_X3_requireResult rfl rfl rfl (by decide +kernel) ⟨Nat.le_of_ble_eq_true rfl, Nat.le_of_ble_eq_true rfl⟩) ⟨fun a U g mk q => by obtain ⟨q0, q1, qP, qK, qD⟩ := q; exact ⟨q0, q1, qP, va_K.moved (u := U) (U := U.calling g mk a) (Vm.Alike.refl U.vm) qK, qD⟩, va_recv hKc hPc (ci := 2) (q0 := 0) rfl rfl, fun U hU hW => ⟨rfl, by rw [hU], by rw [hU]; exact hPc, va_K.moved hW.alike hKc, hDc.weaken (fun _ _ _ _ => trivial)⟩⟩ rfl rfl hl.1 rfl (lv_room (Nat.le_of_ble_eq_true rfl)) dX3_high_2 ⟨Nat.le_of_ble_eq_true rfl, Nat.le_of_ble_eq_true rfl⟩) hS (fun q _ h => hFc q h) hFc (fun u9 t9 H1 locs ht hvm hw hB hz1 hk1 hS => ?_)
  obtain ⟨hP1, hD1⟩ := hB
  rw [ht] at hP1
  try dsimp only at hw
  obtain ⟨hP, hD⟩ := va_join (wr := [(sm, .inr (1, [.ref so])), (so, .inl (cO, 3, .inr (.inr (.inr (.inr g))))), (r0, .inl (cI, 511, .inl R0)), (r1, .inl (cI, 511, .inl R1)), (r2, .inl (cI, 511, .inl R2))]) (w1 := [(xo, .inr (2, [.int (nI k), .ref ra, .ref rb, .int (nI rs), .ref sm, .ref hh, .ref ps, .ref pb]))]) hP hD [0] [1, 2, 3, 4, 5] rfl rfl (by decide) (by decide) hk1 hFc hP1 hD1
  generalize H1 = H at hP hS ⊢
  have hP : va_P (dC, dI) vwCl [(sm, .inr (1, [.ref so])), (so, .inl (cO, 3, .inr (.inr (.inr (.inr g))))), (r0, .inl (cI, 511, .inl R0)), (r1, .inl (cI, 511, .inl R1)), (r2, .inl (cI, 511, .inl R2)), (xo, .inr (2, [.int (nI k), .ref ra, .ref rb, .int (nI rs), .ref sm, .ref hh, .ref ps, .ref pb]))] H := hP
  have hD : va_D A [(sm, .inr (1, [.ref so])), (so, .inl (cO, 3, .inr (.inr (.inr (.inr g))))), (r0, .inl (cI, 511, .inl R0)), (r1, .inl (cI, 511, .inl R1)), (r2, .inl (cI, 511, .inl R2)), (xo, .inr (2, [.int (nI k), .ref ra, .ref rb, .int (nI rs), .ref sm, .ref hh, .ref ps, .ref pb]))] := hD
  clear hPc hDc hKc hFc hP1 hD1 hk1 hz1 hvm ht
  clear hw
  refine lv_aload_n hx hb dX3_high_5 rfl (lv_at hl 0 rfl) ?_
  refine va_get (D := (dC, dI)) (ci := 2) (v := .ref sm) (C := RX3) (T := TX3) (N := 8) hx hb hts (by decide +kernel) hown hK hP 5 rfl rfl 4 (by decide) (hts (.fieldLink RX3 28 "ThreePrimes" "sums" "LThreePrimes$Sums;") (by decide +kernel)) (fun _ h9 => h9) rfl dX3_high_6 ?_
  refine lv_iload_n hx hb dX3_high_9 rfl (lv_at hl 1 rfl) ?_
  have hPc := hP.sub (ws' := [(sm, .inr (1, [.ref so])), (so, .inl (cO, 3, .inr (.inr (.inr (.inr g))))), (r0, .inl (cI, 511, .inl R0)), (r1, .inl (cI, 511, .inl R1)), (r2, .inl (cI, 511, .inl R2))]) [0, 1, 2, 3, 4] rfl
  have hDc := hD.sub (ws' := [(sm, .inr (1, [.ref so])), (so, .inl (cO, 3, .inr (.inr (.inr (.inr g))))), (r0, .inl (cI, 511, .inl R0)), (r1, .inl (cI, 511, .inl R1)), (r2, .inl (cI, 511, .inl R2))]) [0, 1, 2, 3, 4] (by decide) rfl
  have hKc := hK.sub (tys' := [(cI, .int), (cO, .array .int)]) [0, 1] rfl
  have hFc := va_free (wc := [(sm, .inr (1, [.ref so])), (so, .inl (cO, 3, .inr (.inr (.inr (.inr g))))), (r0, .inl (cI, 511, .inl R0)), (r1, .inl (cI, 511, .inl R1)), (r2, .inl (cI, 511, .inl R2))]) hD hS hA [0, 1, 2, 3, 4] rfl
  refine va_calli (va_runV (As := [.int (nI j)]) (rest := []) ⟨hx, hb, hml, hown, hts⟩ (c_X2_bitsAbove64 l dC dI cI cO sm so r0 r1 r2 g R0 R1 R2 511  j  H.size hg0 hg1 hg2 (by omega) (by omega)) (cwV 1 hts gX3_high_X2_bitsAbove64 rfl rfl rfl (by decide +kernel) ⟨Nat.le_of_ble_eq_true rfl, Nat.le_of_ble_eq_true rfl⟩) ⟨fun a U g mk q => by obtain ⟨q0, q1, qP, qK, qD⟩ := q; exact ⟨q0, q1, qP, va_K.moved (u := U) (U := U.calling g mk a) (Vm.Alike.refl U.vm) qK, qD⟩, va_recv hKc hPc (ci := 1) (q0 := 0) rfl rfl, fun U hU hW => ⟨rfl, by rw [hU], by rw [hU]; exact hPc, va_K.moved hW.alike hKc, hDc.weaken (fun _ _ _ _ => trivial)⟩⟩ rfl rfl hl.1 rfl (lv_room (Nat.le_of_ble_eq_true rfl)) dX3_high_10 ⟨Nat.le_of_ble_eq_true rfl, Nat.le_of_ble_eq_true rfl⟩) hS (fun q _ h => hFc q h) hFc (fun r9 u9 t9 H1 locs ht hvm hw hB hz1 hk1 hS => ?_)
  obtain ⟨hP1, hD1⟩ := hB
  rw [ht] at hP1
  try dsimp only at hw
  obtain ⟨hP, hD⟩ := va_join (wr := [(xo, .inr (2, [.int (nI k), .ref ra, .ref rb, .int (nI rs), .ref sm, .ref hh, .ref ps, .ref pb]))]) (w1 := [(sm, .inr (1, [.ref so])), (so, .inl (cO, 3, .inr (.inr (.inr (.inr g))))), (r0, .inl (cI, 511, .inl R0)), (r1, .inl (cI, 511, .inl R1)), (r2, .inl (cI, 511, .inl R2))]) hP hD [0, 1, 2, 3, 4] [5] rfl rfl (by decide) (by decide) hk1 hFc hP1 hD1
  generalize H1 = H at hP hS ⊢
  have hP : va_P (dC, dI) vwCl [(xo, .inr (2, [.int (nI k), .ref ra, .ref rb, .int (nI rs), .ref sm, .ref hh, .ref ps, .ref pb])), (sm, .inr (1, [.ref so])), (so, .inl (cO, 3, .inr (.inr (.inr (.inr g))))), (r0, .inl (cI, 511, .inl R0)), (r1, .inl (cI, 511, .inl R1)), (r2, .inl (cI, 511, .inl R2))] H := hP
  have hD : va_D A [(xo, .inr (2, [.int (nI k), .ref ra, .ref rb, .int (nI rs), .ref sm, .ref hh, .ref ps, .ref pb])), (sm, .inr (1, [.ref so])), (so, .inl (cO, 3, .inr (.inr (.inr (.inr g))))), (r0, .inl (cI, 511, .inl R0)), (r1, .inl (cI, 511, .inl R1)), (r2, .inl (cI, 511, .inl R2))] := hD
  clear hPc hDc hKc hFc hP1 hD1 hk1 hz1 hvm ht
  subst hw
  have hP9 : va_P (dC, dI) vwCl [(xo, .inr (2, [.int (nI k), .ref ra, .ref rb, .int (nI rs), .ref sm, .ref hh, .ref ps, .ref pb])), (sm, .inr (1, [.ref so])), (so, .inl (cO, 3, .inr (.inr (.inr (.inr g))))), (r0, .inl (cI, 511, .inl R0)), (r1, .inl (cI, 511, .inl R1)), (r2, .inl (cI, 511, .inl R2))] H := hP.sub [0, 1, 2, 3, 4, 5] rfl
  have hD9 : va_D A [(xo, .inr (2, [.int (nI k), .ref ra, .ref rb, .int (nI rs), .ref sm, .ref hh, .ref ps, .ref pb])), (sm, .inr (1, [.ref so])), (so, .inl (cO, 3, .inr (.inr (.inr (.inr g))))), (r0, .inl (cI, 511, .inl R0)), (r1, .inl (cI, 511, .inl R1)), (r2, .inl (cI, 511, .inl R2))] := hD.sub [0, 1, 2, 3, 4, 5] (by decide) rfl
  exact W.iret (v := iI (highZ (R0 j).toInt (R1 j).toInt (R2 j).toInt)) hx hb hr (fun t ht hW => ⟨⟨iI (highZ (R0 j).toInt (R1 j).toInt (R2 j).toInt), (), rfl, rfl, by rw [ht]; exact hP9, hD9⟩, hS.F ht⟩) hS.2.2 dX3_high_13

abbrev q_X3_high_bad (dC : Nat → ClassId) (dI : Nat → Nat → Nat) (xo ra rb sm hh ps pb k rs : Nat) (i : Int32) (A : Nat → Prop) : Array Value → State → Outcome → State → Prop := va_Qi (fun (r : Int32) (u : Unit) => False) (fun u t => va_P (dC, dI) vwCl [(xo, .inr (2, [.int (nI k), .ref ra, .ref rb, .int (nI rs), .ref sm, .ref hh, .ref ps, .ref pb]))] t.heap ∧ va_D A [(xo, .inr (2, [.int (nI k), .ref ra, .ref rb, .int (nI rs), .ref sm, .ref hh, .ref ps, .ref pb]))]) A
abbrev x_X3_high_bad (dC : Nat → ClassId) (dI : Nat → Nat → Nat) (xo ra rb sm hh ps pb k rs : Nat) (i : Int32) (A : Nat → Prop) : String → State → State → Prop := vx_X (fun _ : Unit => True) (fun E _ t => (E = "java/lang/IndexOutOfBoundsException") ∧ va_P (dC, dI) vwCl [(xo, .inr (2, [.int (nI k), .ref ra, .ref rb, .int (nI rs), .ref sm, .ref hh, .ref ps, .ref pb]))] t.heap ∧ va_D A [(xo, .inr (2, [.int (nI k), .ref ra, .ref rb, .int (nI rs), .ref sm, .ref hh, .ref ps, .ref pb]))]) A
set_option maxHeartbeats 4000000 in
set_option maxRecDepth 100000 in
theorem c_X3_high_bad (l : Launch) (dC : Nat → ClassId) (dI : Nat → Nat → Nat) (xo ra rb sm hh ps pb k rs : Nat) (i : Int32) (sz : Nat) (hl9 : l.stackTraces = false) (tP : Nat) (sa : Nat → Nat) (hbad : i < 0 ∨ nI rs ≤ i) : vx_Met l yX3_high wsX3_high ({ frames := 7, cells := 1, slots := 6, locals := 103 }) (va_Pc [.ref xo, .int i] (fun U => U.heap.size = sz ∧ va_P (dC, dI) vwCl [(xo, .inr (2, [.int (nI k), .ref ra, .ref rb, .int (nI rs), .ref sm, .ref hh, .ref ps, .ref pb]))] U.heap ∧ va_K (dC, dI) vwCl [] U ∧ va_D (fun _ => True) [(xo, .inr (2, [.int (nI k), .ref ra, .ref rb, .int (nI rs), .ref sm, .ref hh, .ref ps, .ref pb]))] ∧ amb tP sa (va_A [(xo, .inr (2, [.int (nI k), .ref ra, .ref rb, .int (nI rs), .ref sm, .ref hh, .ref ps, .ref pb]))] sz) U U.heap)) (q_X3_high_bad dC dI xo ra rb sm hh ps pb k rs i (va_A [(xo, .inr (2, [.int (nI k), .ref ra, .ref rb, .int (nI rs), .ref sm, .ref hh, .ref ps, .ref pb]))] sz)) (x_X3_high_bad dC dI xo ra rb sm hh ps pb k rs i (va_A [(xo, .inr (2, [.int (nI k), .ref ra, .ref rb, .int (nI rs), .ref sm, .ref hh, .ref ps, .ref pb]))] sz)) 1 6 (va_A [(xo, .inr (2, [.int (nI k), .ref ra, .ref rb, .int (nI rs), .ref sm, .ref hh, .ref ps, .ref pb]))] sz) := by
  refine vx_ofW (cc := cX3_high) (maxL := 2) (ret := (some .int)) (by decide) rfl ?_
  intro p e s m args below meth c s₁ B hml htab hv
  obtain ⟨rfl, hsz, hP, hK, hD0, hM⟩ := hv
  have hx := B.exec
  have hb := B.bytes
  have hr := B.returns
  have hts := atoms_spec (ws := wsX3_high) B.pre
  have hown : s.vm.findClass RX3 = some m.cls := findClass_of_methodNamed B.named
  have hlocks := B.notSynchronized
  subst hsz
  have hD := hD0.self (sz := s.heap.size)
  generalize hAe : va_A [(xo, .inr (2, [.int (nI k), .ref ra, .ref rb, .int (nI rs), .ref sm, .ref hh, .ref ps, .ref pb]))] s.heap.size = A at hD hM ⊢
  have hA : ∀ q : Nat, s.heap.size ≤ q → A q := fun q h => by rw [← hAe]; exact Or.inr h
  have hS : va_S A s.heap s.heap [] := va_S.rf
  have hP : va_P (dC, dI) vwCl [(xo, .inr (2, [.int (nI k), .ref ra, .ref rb, .int (nI rs), .ref sm, .ref hh, .ref ps, .ref pb]))] s.heap := hP
  have hl := lv_entry (([.ref xo, .int i] : List Value)) (n := 2) (Nat.le_of_ble_eq_true rfl)
  rw [lg_entry_eq]
  generalize (lg_sl (([.ref xo, .int i] : List Value)) ++ List.replicate (2 - (lg_sl (([.ref xo, .int i] : List Value))).length) Slot.unset).toArray = ls at hl ⊢
  have hl : lv_has ls 2 [(0, .ref xo), (1, .int i)] := hl
  obtain ⟨H, hHe⟩ : ∃ H : Heap, H = s.heap := ⟨_, rfl⟩
  rw [← hHe] at hP
  have hS : va_S A s.heap H [] := by rw [hHe]; exact hS
  obtain ⟨locs, hlo⟩ : ∃ L : List Loc, L = [] := ⟨_, rfl⟩
  rw [← hlo] at hS ⊢
  rw [← hHe]
  refine lv_aload_n hx hb dX3_high_0 rfl (lv_at hl 0 rfl) ?_
  refine lv_iload_n hx hb dX3_high_1 rfl (lv_at hl 1 rfl) ?_
  have hPc := hP.sub (ws' := [(xo, .inr (2, [.int (nI k), .ref ra, .ref rb, .int (nI rs), .ref sm, .ref hh, .ref ps, .ref pb]))]) [0] rfl
  have hDc := hD.sub (ws' := [(xo, .inr (2, [.int (nI k), .ref ra, .ref rb, .int (nI rs), .ref sm, .ref hh, .ref ps, .ref pb]))]) [0] (by decide) rfl
  have hKc := hK.sub (tys' := []) [] rfl
  have hFc := va_free (wc := [(xo, .inr (2, [.int (nI k), .ref ra, .ref rb, .int (nI rs), .ref sm, .ref hh, .ref ps, .ref pb]))]) hD hS hA [0] rfl
  refine vx_callv (vx_runV (As := [.int i]) (rest := []) ⟨hx, hb, hml, hown, hts⟩ (c_X3_requireResult_bad l dC dI xo ra rb sm hh ps pb k rs i H.size hl9 tP sa hbad) (cwV 1 hts gX3_high_X3_requireResult rfl rfl rfl (by decide +kernel) ⟨Nat.le_of_ble_eq_true rfl, Nat.le_of_ble_eq_true rfl⟩) ⟨fun a U g mk q => by obtain ⟨q0, q1, qP, qK, qD, qM⟩ := q; exact ⟨q0, q1, qP, va_K.moved (u := U) (U := U.calling g mk a) (Vm.Alike.refl U.vm) qK, qD, amb_same (U := U) (U' := U.calling g mk a) rfl rfl qM⟩, va_recv hKc hPc (ci := 2) (q0 := 0) rfl rfl, fun U hU hW => ⟨rfl, by rw [hU], by rw [hU]; exact hPc, va_K.moved hW.alike hKc, hDc.weaken (fun _ _ _ _ => trivial), amb_pass hM hS hFc hW hU⟩⟩ rfl rfl hl.1 rfl (lv_room (Nat.le_of_ble_eq_true rfl)) dX3_high_2 ⟨Nat.le_of_ble_eq_true rfl, Nat.le_of_ble_eq_true rfl⟩) hS (fun q _ h => hFc q h) hFc (fun q _ h => hFc q h) (fun E9 ce9 q9 u9 t9 H1 locs ht hvm hw hB hz1 hk1 hS hce hcv hcl => ?_) (fun u9 t9 H1 locs ht hvm hw hB hz1 hk1 hS => ?_)
  · obtain ⟨hxp, hP1, hD1⟩ := hB
    rw [ht] at hP1
    obtain ⟨hP, hD⟩ := va_join (wr := []) (w1 := [(xo, .inr (2, [.int (nI k), .ref ra, .ref rb, .int (nI rs), .ref sm, .ref hh, .ref ps, .ref pb]))]) hP hD [0] [] rfl rfl (by decide) (by decide) hk1 hFc hP1 hD1
    have hP9 : va_P (dC, dI) vwCl [(xo, .inr (2, [.int (nI k), .ref ra, .ref rb, .int (nI rs), .ref sm, .ref hh, .ref ps, .ref pb]))] H1 := hP.sub [0] rfl
    have hD9 : va_D A [(xo, .inr (2, [.int (nI k), .ref ra, .ref rb, .int (nI rs), .ref sm, .ref hh, .ref ps, .ref pb]))] := hD.sub [0] (by decide) rfl
    exact vx_out (E := E9) (fun x h => (htab x h).elim) hlocks hce hcv hcl (fun t ht9 hal => ⟨(), trivial, ⟨hxp, by rw [ht9]; exact hP9, hD9⟩, hS.F ht9⟩) hS.2.2 (Nat.le_of_ble_eq_true rfl) (Nat.le_of_ble_eq_true rfl)
  exact hw.elim

abbrev q_X3_rest_0 (dC : Nat → ClassId) (dI : Nat → Nat → Nat) (xo ra rb sm hh ps pb k rs : Nat) (cI cO : ClassId) (so r0 r1 r2 : Nat) (g : Nat → Option Nat) (R0 R1 R2 : Nat → Int32) (j : Nat) (A : Nat → Prop) : Array Value → State → Outcome → State → Prop := va_Qi (fun (r : Int32) (u : Unit) => r = R0 j) (fun u t => va_P (dC, dI) vwCl [(xo, .inr (2, [.int (nI k), .ref ra, .ref rb, .int (nI rs), .ref sm, .ref hh, .ref ps, .ref pb])), (sm, .inr (1, [.ref so])), (so, .inl (cO, 3, .inr (.inr (.inr (.inr g))))), (r0, .inl (cI, 511, .inl R0)), (r1, .inl (cI, 511, .inl R1)), (r2, .inl (cI, 511, .inl R2))] t.heap ∧ va_D A [(xo, .inr (2, [.int (nI k), .ref ra, .ref rb, .int (nI rs), .ref sm, .ref hh, .ref ps, .ref pb])), (sm, .inr (1, [.ref so])), (so, .inl (cO, 3, .inr (.inr (.inr (.inr g))))), (r0, .inl (cI, 511, .inl R0)), (r1, .inl (cI, 511, .inl R1)), (r2, .inl (cI, 511, .inl R2))]) A
set_option maxHeartbeats 4000000 in
set_option maxRecDepth 100000 in
theorem c_X3_rest_0 (l : Launch) (dC : Nat → ClassId) (dI : Nat → Nat → Nat) (xo ra rb sm hh ps pb k rs : Nat) (cI cO : ClassId) (so r0 r1 r2 : Nat) (g : Nat → Option Nat) (R0 R1 R2 : Nat → Int32) (j : Nat) (sz : Nat) (tP : Nat) (sa : Nat → Nat) (hg0 : g 0 = some r0) (hg1 : g 1 = some r1) (hg2 : g 2 = some r2) (zj : j < rs) (zrs : rs ≤ 511) : Met l yX3_rest wsX3_rest ({ frames := 1, cells := 0, slots := 0, locals := 22 }) (va_Pc [.ref xo, .int (nI 0), .int (nI j)] (fun U => U.heap.size = sz ∧ va_P (dC, dI) vwCl [(xo, .inr (2, [.int (nI k), .ref ra, .ref rb, .int (nI rs), .ref sm, .ref hh, .ref ps, .ref pb])), (sm, .inr (1, [.ref so])), (so, .inl (cO, 3, .inr (.inr (.inr (.inr g))))), (r0, .inl (cI, 511, .inl R0)), (r1, .inl (cI, 511, .inl R1)), (r2, .inl (cI, 511, .inl R2))] U.heap ∧ va_K (dC, dI) vwCl [(cI, .int), (cO, .array .int)] U ∧ va_D (fun _ => True) [(xo, .inr (2, [.int (nI k), .ref ra, .ref rb, .int (nI rs), .ref sm, .ref hh, .ref ps, .ref pb])), (sm, .inr (1, [.ref so])), (so, .inl (cO, 3, .inr (.inr (.inr (.inr g))))), (r0, .inl (cI, 511, .inl R0)), (r1, .inl (cI, 511, .inl R1)), (r2, .inl (cI, 511, .inl R2))] ∧ amb tP sa (va_A [(xo, .inr (2, [.int (nI k), .ref ra, .ref rb, .int (nI rs), .ref sm, .ref hh, .ref ps, .ref pb])), (sm, .inr (1, [.ref so])), (so, .inl (cO, 3, .inr (.inr (.inr (.inr g))))), (r0, .inl (cI, 511, .inl R0)), (r1, .inl (cI, 511, .inl R1)), (r2, .inl (cI, 511, .inl R2))] sz) U U.heap)) (q_X3_rest_0 dC dI xo ra rb sm hh ps pb k rs cI cO so r0 r1 r2 g R0 R1 R2 j (va_A [(xo, .inr (2, [.int (nI k), .ref ra, .ref rb, .int (nI rs), .ref sm, .ref hh, .ref ps, .ref pb])), (sm, .inr (1, [.ref so])), (so, .inl (cO, 3, .inr (.inr (.inr (.inr g))))), (r0, .inl (cI, 511, .inl R0)), (r1, .inl (cI, 511, .inl R1)), (r2, .inl (cI, 511, .inl R2))] sz)) 0 0 (va_A [(xo, .inr (2, [.int (nI k), .ref ra, .ref rb, .int (nI rs), .ref sm, .ref hh, .ref ps, .ref pb])), (sm, .inr (1, [.ref so])), (so, .inl (cO, 3, .inr (.inr (.inr (.inr g))))), (r0, .inl (cI, 511, .inl R0)), (r1, .inl (cI, 511, .inl R1)), (r2, .inl (cI, 511, .inl R2))] sz) := by
  refine Met.ofW (cc := cX3_rest) (maxL := 3) (ret := (some .int)) (by decide) rfl ?_
  intro p e s m args below meth c s₁ B hml hv
  obtain ⟨rfl, hsz, hP, hK, hD0, hM⟩ := hv
  have hx := B.exec
  have hb := B.bytes
  have hr := B.returns
  have hts := atoms_spec (ws := wsX3_rest) B.pre
  have hown : s.vm.findClass RX3 = some m.cls := findClass_of_methodNamed B.named
  have hlocks := B.notSynchronized
  subst hsz
  have hD := hD0.self (sz := s.heap.size)
  generalize hAe : va_A [(xo, .inr (2, [.int (nI k), .ref ra, .ref rb, .int (nI rs), .ref sm, .ref hh, .ref ps, .ref pb])), (sm, .inr (1, [.ref so])), (so, .inl (cO, 3, .inr (.inr (.inr (.inr g))))), (r0, .inl (cI, 511, .inl R0)), (r1, .inl (cI, 511, .inl R1)), (r2, .inl (cI, 511, .inl R2))] s.heap.size = A at hD hM ⊢
  have hA : ∀ q : Nat, s.heap.size ≤ q → A q := fun q h => by rw [← hAe]; exact Or.inr h
  have hS : va_S A s.heap s.heap [] := va_S.rf
  have hP : va_P (dC, dI) vwCl [(xo, .inr (2, [.int (nI k), .ref ra, .ref rb, .int (nI rs), .ref sm, .ref hh, .ref ps, .ref pb])), (sm, .inr (1, [.ref so])), (so, .inl (cO, 3, .inr (.inr (.inr (.inr g))))), (r0, .inl (cI, 511, .inl R0)), (r1, .inl (cI, 511, .inl R1)), (r2, .inl (cI, 511, .inl R2))] s.heap := hP
  have hl := lv_entry (([.ref xo, .int (nI 0), .int (nI j)] : List Value)) (n := 3) (Nat.le_of_ble_eq_true rfl)
  rw [lg_entry_eq]
  generalize (lg_sl (([.ref xo, .int (nI 0), .int (nI j)] : List Value)) ++ List.replicate (3 - (lg_sl (([.ref xo, .int (nI 0), .int (nI j)] : List Value))).length) Slot.unset).toArray = ls at hl ⊢
  have hl : lv_has ls 3 [(0, .ref xo), (1, .int (nI 0)), (2, .int (nI j))] := hl
  obtain ⟨H, hHe⟩ : ∃ H : Heap, H = s.heap := ⟨_, rfl⟩
  rw [← hHe] at hP
  have hS : va_S A s.heap H [] := by rw [hHe]; exact hS
  obtain ⟨locs, hlo⟩ : ∃ L : List Loc, L = [] := ⟨_, rfl⟩
  rw [← hlo] at hS ⊢
  rw [← hHe]
  refine lv_aload_n hx hb dX3_rest_0 rfl (lv_at hl 0 rfl) ?_
  refine lv_iload_n hx hb dX3_rest_1 rfl (lv_at hl 1 rfl) ?_
  have hPc := hP.sub (ws' := [(xo, .inr (2, [.int (nI k), .ref ra, .ref rb, .int (nI rs), .ref sm, .ref hh, .ref ps, .ref pb]))]) [0] rfl
  have hDc := hD.sub (ws' := [(xo, .inr (2, [.int (nI k), .ref ra, .ref rb, .int (nI rs), .ref sm, .ref hh, .ref ps, .ref pb]))]) [0] (by decide) rfl
  have hKc := hK.sub (tys' := []) [] rfl
  have hFc := va_free (wc := [(xo, .inr (2, [.int (nI k), .ref ra, .ref rb, .int (nI rs), .ref sm, .ref hh, .ref ps, .ref pb]))]) hD hS hA [0] rfl
  refine va_callv (va_runV (As := [.int (nI 0)]) (rest := []) ⟨hx, hb, hml, hown, hts⟩ (c_X3_requirePrime_ok l dC dI xo ra rb sm hh ps pb k rs 0 H.size tP sa (by omega)) (cwV 1 hts gX3_rest_X3_requirePrime rfl rfl rfl (by decide +kernel) ⟨Nat.le_of_ble_eq_true rfl, Nat.le_of_ble_eq_true rfl⟩) ⟨fun a U g mk q => by obtain ⟨q0, q1, qP, qK, qD, qM⟩ := q; exact ⟨q0, q1, qP, va_K.moved (u := U) (U := U.calling g mk a) (Vm.Alike.refl U.vm) qK, qD, amb_same (U := U) (U' := U.calling g mk a) rfl rfl qM⟩, va_recv hKc hPc (ci := 2) (q0 := 0) rfl rfl, fun U hU hW => ⟨rfl, by rw [hU], by rw [hU]; exact hPc, va_K.moved hW.alike hKc, hDc.weaken (fun _ _ _ _ => trivial), amb_pass hM hS hFc hW hU⟩⟩ rfl rfl hl.1 rfl (lv_room (Nat.le_of_ble_eq_true rfl)) dX3_rest_2 ⟨Nat.le_of_ble_eq_true rfl, Nat.le_of_ble_eq_true rfl⟩) hS (fun q _ h => hFc q h) hFc (fun u9 t9 H1 locs ht hvm hw hB hz1 hk1 hS => ?_)
  obtain ⟨hP1, hD1⟩ := hB
  rw [ht] at hP1
  try dsimp only at hw
  obtain ⟨hP, hD⟩ := va_join (wr := [(sm, .inr (1, [.ref so])), (so, .inl (cO, 3, .inr (.inr (.inr (.inr g))))), (r0, .inl (cI, 511, .inl R0)), (r1, .inl (cI, 511, .inl R1)), (r2, .inl (cI, 511, .inl R2))]) (w1 := [(xo, .inr (2, [.int (nI k), .ref ra, .ref rb, .int (nI rs), .ref sm, .ref hh, .ref ps, .ref pb]))]) hP hD [0] [1, 2, 3, 4, 5] rfl rfl (by decide) (by decide) hk1 hFc hP1 hD1
  generalize H1 = H at hP hS ⊢
  have hP : va_P (dC, dI) vwCl [(sm, .inr (1, [.ref so])), (so, .inl (cO, 3, .inr (.inr (.inr (.inr g))))), (r0, .inl (cI, 511, .inl R0)), (r1, .inl (cI, 511, .inl R1)), (r2, .inl (cI, 511, .inl R2)), (xo, .inr (2, [.int (nI k), .ref ra, .ref rb, .int (nI rs), .ref sm, .ref hh, .ref ps, .ref pb]))] H := hP
  have hD : va_D A [(sm, .inr (1, [.ref so])), (so, .inl (cO, 3, .inr (.inr (.inr (.inr g))))), (r0, .inl (cI, 511, .inl R0)), (r1, .inl (cI, 511, .inl R1)), (r2, .inl (cI, 511, .inl R2)), (xo, .inr (2, [.int (nI k), .ref ra, .ref rb, .int (nI rs), .ref sm, .ref hh, .ref ps, .ref pb]))] := hD
  clear hPc hDc hKc hFc hP1 hD1 hk1 hz1 hvm ht
  clear hw
  refine lv_aload_n hx hb dX3_rest_5 rfl (lv_at hl 0 rfl) ?_
  refine lv_iload_n hx hb dX3_rest_6 rfl (lv_at hl 2 rfl) ?_
  have hPc := hP.sub (ws' := [(xo, .inr (2, [.int (nI k), .ref ra, .ref rb, .int (nI rs), .ref sm, .ref hh, .ref ps, .ref pb]))]) [5] rfl
  have hDc := hD.sub (ws' := [(xo, .inr (2, [.int (nI k), .ref ra, .ref rb, .int (nI rs), .ref sm, .ref hh, .ref ps, .ref pb]))]) [5] (by decide) rfl
  have hKc := hK.sub (tys' := []) [] rfl
  have hFc := va_free (wc := [(xo, .inr (2, [.int (nI k), .ref ra, .ref rb, .int (nI rs), .ref sm, .ref hh, .ref ps, .ref pb]))]) hD hS hA [5] rfl
  refine va_callv (va_runV (As := [.int (nI j)]) (rest := []) ⟨hx, hb, hml, hown, hts⟩ (c_X3_requireResult_ok l dC dI xo ra rb sm hh ps pb k rs j H.size (by omega) (by omega)) (cwV 1 hts gX3_rest_X3_requireResult rfl rfl rfl (by decide +kernel) ⟨Nat.le_of_ble_eq_true rfl, Nat.le_of_ble_eq_true rfl⟩) ⟨fun a U g mk q => by obtain ⟨q0, q1, qP, qK, qD⟩ := q; exact ⟨q0, q1, qP, va_K.moved (u := U) (U := U.calling g mk a) (Vm.Alike.refl U.vm) qK, qD⟩, va_recv hKc hPc (ci := 2) (q0 := 0) rfl rfl, fun U hU hW => ⟨rfl, by rw [hU], by rw [hU]; exact hPc, va_K.moved hW.alike hKc, hDc.weaken (fun _ _ _ _ => trivial)⟩⟩ rfl rfl hl.1 rfl (lv_room (Nat.le_of_ble_eq_true rfl)) dX3_rest_7 ⟨Nat.le_of_ble_eq_true rfl, Nat.le_of_ble_eq_true rfl⟩) hS (fun q _ h => hFc q h) hFc (fun u9 t9 H1 locs ht hvm hw hB hz1 hk1 hS => ?_)
  obtain ⟨hP1, hD1⟩ := hB
  rw [ht] at hP1
  try dsimp only at hw
  obtain ⟨hP, hD⟩ := va_join (wr := [(sm, .inr (1, [.ref so])), (so, .inl (cO, 3, .inr (.inr (.inr (.inr g))))), (r0, .inl (cI, 511, .inl R0)), (r1, .inl (cI, 511, .inl R1)), (r2, .inl (cI, 511, .inl R2))]) (w1 := [(xo, .inr (2, [.int (nI k), .ref ra, .ref rb, .int (nI rs), .ref sm, .ref hh, .ref ps, .ref pb]))]) hP hD [5] [0, 1, 2, 3, 4] rfl rfl (by decide) (by decide) hk1 hFc hP1 hD1
  generalize H1 = H at hP hS ⊢
  have hP : va_P (dC, dI) vwCl [(sm, .inr (1, [.ref so])), (so, .inl (cO, 3, .inr (.inr (.inr (.inr g))))), (r0, .inl (cI, 511, .inl R0)), (r1, .inl (cI, 511, .inl R1)), (r2, .inl (cI, 511, .inl R2)), (xo, .inr (2, [.int (nI k), .ref ra, .ref rb, .int (nI rs), .ref sm, .ref hh, .ref ps, .ref pb]))] H := hP
  have hD : va_D A [(sm, .inr (1, [.ref so])), (so, .inl (cO, 3, .inr (.inr (.inr (.inr g))))), (r0, .inl (cI, 511, .inl R0)), (r1, .inl (cI, 511, .inl R1)), (r2, .inl (cI, 511, .inl R2)), (xo, .inr (2, [.int (nI k), .ref ra, .ref rb, .int (nI rs), .ref sm, .ref hh, .ref ps, .ref pb]))] := hD
  clear hPc hDc hKc hFc hP1 hD1 hk1 hz1 hvm ht
  clear hw
  refine lv_aload_n hx hb dX3_rest_10 rfl (lv_at hl 0 rfl) ?_
  refine va_get (D := (dC, dI)) (ci := 2) (v := .ref sm) (C := RX3) (T := TX3) (N := 8) hx hb hts (by decide +kernel) hown hK hP 5 rfl rfl 4 (by decide) (hts (.fieldLink RX3 28 "ThreePrimes" "sums" "LThreePrimes$Sums;") (by decide +kernel)) (fun _ h9 => h9) rfl dX3_rest_11 ?_
  refine lv_iload_n hx hb dX3_rest_14 rfl (lv_at hl 1 rfl) ?_
  refine lv_iload_n hx hb dX3_rest_15 rfl (lv_at hl 2 rfl) ?_
  have hPc := hP.sub (ws' := [(sm, .inr (1, [.ref so])), (so, .inl (cO, 3, .inr (.inr (.inr (.inr g))))), (r0, .inl (cI, 511, .inl R0))]) [0, 1, 2] rfl
  have hDc := hD.sub (ws' := [(sm, .inr (1, [.ref so])), (so, .inl (cO, 3, .inr (.inr (.inr (.inr g))))), (r0, .inl (cI, 511, .inl R0))]) [0, 1, 2] (by decide) rfl
  have hKc := hK.sub (tys' := [(cI, .int), (cO, .array .int)]) [0, 1] rfl
  have hFc := va_free (wc := [(sm, .inr (1, [.ref so])), (so, .inl (cO, 3, .inr (.inr (.inr (.inr g))))), (r0, .inl (cI, 511, .inl R0))]) hD hS hA [0, 1, 2] rfl
  refine va_calli (va_runV (As := [.int (nI 0), .int (nI j)]) (rest := []) ⟨hx, hb, hml, hown, hts⟩ (c_X2_remainder l dC dI cI cO sm so r0 g R0 511 0 j H.size hg0 (by omega) (by omega) (by omega)) (cwV 2 hts gX3_rest_X2_remainder rfl rfl rfl (by decide +kernel) ⟨Nat.le_of_ble_eq_true rfl, Nat.le_of_ble_eq_true rfl⟩) ⟨fun a U g mk q => by obtain ⟨q0, q1, qP, qK, qD⟩ := q; exact ⟨q0, q1, qP, va_K.moved (u := U) (U := U.calling g mk a) (Vm.Alike.refl U.vm) qK, qD⟩, va_recv hKc hPc (ci := 1) (q0 := 0) rfl rfl, fun U hU hW => ⟨rfl, by rw [hU], by rw [hU]; exact hPc, va_K.moved hW.alike hKc, hDc.weaken (fun _ _ _ _ => trivial)⟩⟩ rfl rfl hl.1 rfl (lv_room (Nat.le_of_ble_eq_true rfl)) dX3_rest_16 ⟨Nat.le_of_ble_eq_true rfl, Nat.le_of_ble_eq_true rfl⟩) hS (fun q _ h => hFc q h) hFc (fun r9 u9 t9 H1 locs ht hvm hw hB hz1 hk1 hS => ?_)
  obtain ⟨hP1, hD1⟩ := hB
  rw [ht] at hP1
  try dsimp only at hw
  obtain ⟨hP, hD⟩ := va_join (wr := [(r1, .inl (cI, 511, .inl R1)), (r2, .inl (cI, 511, .inl R2)), (xo, .inr (2, [.int (nI k), .ref ra, .ref rb, .int (nI rs), .ref sm, .ref hh, .ref ps, .ref pb]))]) (w1 := [(sm, .inr (1, [.ref so])), (so, .inl (cO, 3, .inr (.inr (.inr (.inr g))))), (r0, .inl (cI, 511, .inl R0))]) hP hD [0, 1, 2] [3, 4, 5] rfl rfl (by decide) (by decide) hk1 hFc hP1 hD1
  generalize H1 = H at hP hS ⊢
  have hP : va_P (dC, dI) vwCl [(r1, .inl (cI, 511, .inl R1)), (r2, .inl (cI, 511, .inl R2)), (xo, .inr (2, [.int (nI k), .ref ra, .ref rb, .int (nI rs), .ref sm, .ref hh, .ref ps, .ref pb])), (sm, .inr (1, [.ref so])), (so, .inl (cO, 3, .inr (.inr (.inr (.inr g))))), (r0, .inl (cI, 511, .inl R0))] H := hP
  have hD : va_D A [(r1, .inl (cI, 511, .inl R1)), (r2, .inl (cI, 511, .inl R2)), (xo, .inr (2, [.int (nI k), .ref ra, .ref rb, .int (nI rs), .ref sm, .ref hh, .ref ps, .ref pb])), (sm, .inr (1, [.ref so])), (so, .inl (cO, 3, .inr (.inr (.inr (.inr g))))), (r0, .inl (cI, 511, .inl R0))] := hD
  clear hPc hDc hKc hFc hP1 hD1 hk1 hz1 hvm ht
  subst hw
  have hP9 : va_P (dC, dI) vwCl [(xo, .inr (2, [.int (nI k), .ref ra, .ref rb, .int (nI rs), .ref sm, .ref hh, .ref ps, .ref pb])), (sm, .inr (1, [.ref so])), (so, .inl (cO, 3, .inr (.inr (.inr (.inr g))))), (r0, .inl (cI, 511, .inl R0)), (r1, .inl (cI, 511, .inl R1)), (r2, .inl (cI, 511, .inl R2))] H := hP.sub [2, 3, 4, 5, 0, 1] rfl
  have hD9 : va_D A [(xo, .inr (2, [.int (nI k), .ref ra, .ref rb, .int (nI rs), .ref sm, .ref hh, .ref ps, .ref pb])), (sm, .inr (1, [.ref so])), (so, .inl (cO, 3, .inr (.inr (.inr (.inr g))))), (r0, .inl (cI, 511, .inl R0)), (r1, .inl (cI, 511, .inl R1)), (r2, .inl (cI, 511, .inl R2))] := hD.sub [2, 3, 4, 5, 0, 1] (by decide) rfl
  exact W.iret (v := R0 j) hx hb hr (fun t ht hW => ⟨⟨R0 j, (), rfl, rfl, by rw [ht]; exact hP9, hD9⟩, hS.F ht⟩) hS.2.2 dX3_rest_19

abbrev q_X3_rest_1 (dC : Nat → ClassId) (dI : Nat → Nat → Nat) (xo ra rb sm hh ps pb k rs : Nat) (cI cO : ClassId) (so r0 r1 r2 : Nat) (g : Nat → Option Nat) (R0 R1 R2 : Nat → Int32) (j : Nat) (A : Nat → Prop) : Array Value → State → Outcome → State → Prop := va_Qi (fun (r : Int32) (u : Unit) => r = R1 j) (fun u t => va_P (dC, dI) vwCl [(xo, .inr (2, [.int (nI k), .ref ra, .ref rb, .int (nI rs), .ref sm, .ref hh, .ref ps, .ref pb])), (sm, .inr (1, [.ref so])), (so, .inl (cO, 3, .inr (.inr (.inr (.inr g))))), (r0, .inl (cI, 511, .inl R0)), (r1, .inl (cI, 511, .inl R1)), (r2, .inl (cI, 511, .inl R2))] t.heap ∧ va_D A [(xo, .inr (2, [.int (nI k), .ref ra, .ref rb, .int (nI rs), .ref sm, .ref hh, .ref ps, .ref pb])), (sm, .inr (1, [.ref so])), (so, .inl (cO, 3, .inr (.inr (.inr (.inr g))))), (r0, .inl (cI, 511, .inl R0)), (r1, .inl (cI, 511, .inl R1)), (r2, .inl (cI, 511, .inl R2))]) A
set_option maxHeartbeats 4000000 in
set_option maxRecDepth 100000 in
theorem c_X3_rest_1 (l : Launch) (dC : Nat → ClassId) (dI : Nat → Nat → Nat) (xo ra rb sm hh ps pb k rs : Nat) (cI cO : ClassId) (so r0 r1 r2 : Nat) (g : Nat → Option Nat) (R0 R1 R2 : Nat → Int32) (j : Nat) (sz : Nat) (tP : Nat) (sa : Nat → Nat) (hg0 : g 0 = some r0) (hg1 : g 1 = some r1) (hg2 : g 2 = some r2) (zj : j < rs) (zrs : rs ≤ 511) : Met l yX3_rest wsX3_rest ({ frames := 1, cells := 0, slots := 0, locals := 22 }) (va_Pc [.ref xo, .int (nI 1), .int (nI j)] (fun U => U.heap.size = sz ∧ va_P (dC, dI) vwCl [(xo, .inr (2, [.int (nI k), .ref ra, .ref rb, .int (nI rs), .ref sm, .ref hh, .ref ps, .ref pb])), (sm, .inr (1, [.ref so])), (so, .inl (cO, 3, .inr (.inr (.inr (.inr g))))), (r0, .inl (cI, 511, .inl R0)), (r1, .inl (cI, 511, .inl R1)), (r2, .inl (cI, 511, .inl R2))] U.heap ∧ va_K (dC, dI) vwCl [(cI, .int), (cO, .array .int)] U ∧ va_D (fun _ => True) [(xo, .inr (2, [.int (nI k), .ref ra, .ref rb, .int (nI rs), .ref sm, .ref hh, .ref ps, .ref pb])), (sm, .inr (1, [.ref so])), (so, .inl (cO, 3, .inr (.inr (.inr (.inr g))))), (r0, .inl (cI, 511, .inl R0)), (r1, .inl (cI, 511, .inl R1)), (r2, .inl (cI, 511, .inl R2))] ∧ amb tP sa (va_A [(xo, .inr (2, [.int (nI k), .ref ra, .ref rb, .int (nI rs), .ref sm, .ref hh, .ref ps, .ref pb])), (sm, .inr (1, [.ref so])), (so, .inl (cO, 3, .inr (.inr (.inr (.inr g))))), (r0, .inl (cI, 511, .inl R0)), (r1, .inl (cI, 511, .inl R1)), (r2, .inl (cI, 511, .inl R2))] sz) U U.heap)) (q_X3_rest_1 dC dI xo ra rb sm hh ps pb k rs cI cO so r0 r1 r2 g R0 R1 R2 j (va_A [(xo, .inr (2, [.int (nI k), .ref ra, .ref rb, .int (nI rs), .ref sm, .ref hh, .ref ps, .ref pb])), (sm, .inr (1, [.ref so])), (so, .inl (cO, 3, .inr (.inr (.inr (.inr g))))), (r0, .inl (cI, 511, .inl R0)), (r1, .inl (cI, 511, .inl R1)), (r2, .inl (cI, 511, .inl R2))] sz)) 0 0 (va_A [(xo, .inr (2, [.int (nI k), .ref ra, .ref rb, .int (nI rs), .ref sm, .ref hh, .ref ps, .ref pb])), (sm, .inr (1, [.ref so])), (so, .inl (cO, 3, .inr (.inr (.inr (.inr g))))), (r0, .inl (cI, 511, .inl R0)), (r1, .inl (cI, 511, .inl R1)), (r2, .inl (cI, 511, .inl R2))] sz) := by
  refine Met.ofW (cc := cX3_rest) (maxL := 3) (ret := (some .int)) (by decide) rfl ?_
  intro p e s m args below meth c s₁ B hml hv
  obtain ⟨rfl, hsz, hP, hK, hD0, hM⟩ := hv
  have hx := B.exec
  have hb := B.bytes
  have hr := B.returns
  have hts := atoms_spec (ws := wsX3_rest) B.pre
  have hown : s.vm.findClass RX3 = some m.cls := findClass_of_methodNamed B.named
  have hlocks := B.notSynchronized
  subst hsz
  have hD := hD0.self (sz := s.heap.size)
  generalize hAe : va_A [(xo, .inr (2, [.int (nI k), .ref ra, .ref rb, .int (nI rs), .ref sm, .ref hh, .ref ps, .ref pb])), (sm, .inr (1, [.ref so])), (so, .inl (cO, 3, .inr (.inr (.inr (.inr g))))), (r0, .inl (cI, 511, .inl R0)), (r1, .inl (cI, 511, .inl R1)), (r2, .inl (cI, 511, .inl R2))] s.heap.size = A at hD hM ⊢
  have hA : ∀ q : Nat, s.heap.size ≤ q → A q := fun q h => by rw [← hAe]; exact Or.inr h
  have hS : va_S A s.heap s.heap [] := va_S.rf
  have hP : va_P (dC, dI) vwCl [(xo, .inr (2, [.int (nI k), .ref ra, .ref rb, .int (nI rs), .ref sm, .ref hh, .ref ps, .ref pb])), (sm, .inr (1, [.ref so])), (so, .inl (cO, 3, .inr (.inr (.inr (.inr g))))), (r0, .inl (cI, 511, .inl R0)), (r1, .inl (cI, 511, .inl R1)), (r2, .inl (cI, 511, .inl R2))] s.heap := hP
  have hl := lv_entry (([.ref xo, .int (nI 1), .int (nI j)] : List Value)) (n := 3) (Nat.le_of_ble_eq_true rfl)
  rw [lg_entry_eq]
  generalize (lg_sl (([.ref xo, .int (nI 1), .int (nI j)] : List Value)) ++ List.replicate (3 - (lg_sl (([.ref xo, .int (nI 1), .int (nI j)] : List Value))).length) Slot.unset).toArray = ls at hl ⊢
  have hl : lv_has ls 3 [(0, .ref xo), (1, .int (nI 1)), (2, .int (nI j))] := hl
  obtain ⟨H, hHe⟩ : ∃ H : Heap, H = s.heap := ⟨_, rfl⟩
  rw [← hHe] at hP
  have hS : va_S A s.heap H [] := by rw [hHe]; exact hS
  obtain ⟨locs, hlo⟩ : ∃ L : List Loc, L = [] := ⟨_, rfl⟩
  rw [← hlo] at hS ⊢
  rw [← hHe]
  refine lv_aload_n hx hb dX3_rest_0 rfl (lv_at hl 0 rfl) ?_
  refine lv_iload_n hx hb dX3_rest_1 rfl (lv_at hl 1 rfl) ?_
  have hPc := hP.sub (ws' := [(xo, .inr (2, [.int (nI k), .ref ra, .ref rb, .int (nI rs), .ref sm, .ref hh, .ref ps, .ref pb]))]) [0] rfl
  have hDc := hD.sub (ws' := [(xo, .inr (2, [.int (nI k), .ref ra, .ref rb, .int (nI rs), .ref sm, .ref hh, .ref ps, .ref pb]))]) [0] (by decide) rfl
  have hKc := hK.sub (tys' := []) [] rfl
  have hFc := va_free (wc := [(xo, .inr (2, [.int (nI k), .ref ra, .ref rb, .int (nI rs), .ref sm, .ref hh, .ref ps, .ref pb]))]) hD hS hA [0] rfl
  refine va_callv (va_runV (As := [.int (nI 1)]) (rest := []) ⟨hx, hb, hml, hown, hts⟩ (c_X3_requirePrime_ok l dC dI xo ra rb sm hh ps pb k rs 1 H.size tP sa (by omega)) (cwV 1 hts gX3_rest_X3_requirePrime rfl rfl rfl (by decide +kernel) ⟨Nat.le_of_ble_eq_true rfl, Nat.le_of_ble_eq_true rfl⟩) ⟨fun a U g mk q => by obtain ⟨q0, q1, qP, qK, qD, qM⟩ := q; exact ⟨q0, q1, qP, va_K.moved (u := U) (U := U.calling g mk a) (Vm.Alike.refl U.vm) qK, qD, amb_same (U := U) (U' := U.calling g mk a) rfl rfl qM⟩, va_recv hKc hPc (ci := 2) (q0 := 0) rfl rfl, fun U hU hW => ⟨rfl, by rw [hU], by rw [hU]; exact hPc, va_K.moved hW.alike hKc, hDc.weaken (fun _ _ _ _ => trivial), amb_pass hM hS hFc hW hU⟩⟩ rfl rfl hl.1 rfl (lv_room (Nat.le_of_ble_eq_true rfl)) dX3_rest_2 ⟨Nat.le_of_ble_eq_true rfl, Nat.le_of_ble_eq_true rfl⟩) hS (fun q _ h => hFc q h) hFc (fun u9 t9 H1 locs ht hvm hw hB hz1 hk1 hS => ?_)
  obtain ⟨hP1, hD1⟩ := hB
  rw [ht] at hP1
  try dsimp only at hw
  obtain ⟨hP, hD⟩ := va_join (wr := [(sm, .inr (1, [.ref so])), (so, .inl (cO, 3, .inr (.inr (.inr (.inr g))))), (r0, .inl (cI, 511, .inl R0)), (r1, .inl (cI, 511, .inl R1)), (r2, .inl (cI, 511, .inl R2))]) (w1 := [(xo, .inr (2, [.int (nI k), .ref ra, .ref rb, .int (nI rs), .ref sm, .ref hh, .ref ps, .ref pb]))]) hP hD [0] [1, 2, 3, 4, 5] rfl rfl (by decide) (by decide) hk1 hFc hP1 hD1
  generalize H1 = H at hP hS ⊢
  have hP : va_P (dC, dI) vwCl [(sm, .inr (1, [.ref so])), (so, .inl (cO, 3, .inr (.inr (.inr (.inr g))))), (r0, .inl (cI, 511, .inl R0)), (r1, .inl (cI, 511, .inl R1)), (r2, .inl (cI, 511, .inl R2)), (xo, .inr (2, [.int (nI k), .ref ra, .ref rb, .int (nI rs), .ref sm, .ref hh, .ref ps, .ref pb]))] H := hP
  have hD : va_D A [(sm, .inr (1, [.ref so])), (so, .inl (cO, 3, .inr (.inr (.inr (.inr g))))), (r0, .inl (cI, 511, .inl R0)), (r1, .inl (cI, 511, .inl R1)), (r2, .inl (cI, 511, .inl R2)), (xo, .inr (2, [.int (nI k), .ref ra, .ref rb, .int (nI rs), .ref sm, .ref hh, .ref ps, .ref pb]))] := hD
  clear hPc hDc hKc hFc hP1 hD1 hk1 hz1 hvm ht
  clear hw
  refine lv_aload_n hx hb dX3_rest_5 rfl (lv_at hl 0 rfl) ?_
  refine lv_iload_n hx hb dX3_rest_6 rfl (lv_at hl 2 rfl) ?_
  have hPc := hP.sub (ws' := [(xo, .inr (2, [.int (nI k), .ref ra, .ref rb, .int (nI rs), .ref sm, .ref hh, .ref ps, .ref pb]))]) [5] rfl
  have hDc := hD.sub (ws' := [(xo, .inr (2, [.int (nI k), .ref ra, .ref rb, .int (nI rs), .ref sm, .ref hh, .ref ps, .ref pb]))]) [5] (by decide) rfl
  have hKc := hK.sub (tys' := []) [] rfl
  have hFc := va_free (wc := [(xo, .inr (2, [.int (nI k), .ref ra, .ref rb, .int (nI rs), .ref sm, .ref hh, .ref ps, .ref pb]))]) hD hS hA [5] rfl
  refine va_callv (va_runV (As := [.int (nI j)]) (rest := []) ⟨hx, hb, hml, hown, hts⟩ (c_X3_requireResult_ok l dC dI xo ra rb sm hh ps pb k rs j H.size (by omega) (by omega)) (cwV 1 hts gX3_rest_X3_requireResult rfl rfl rfl (by decide +kernel) ⟨Nat.le_of_ble_eq_true rfl, Nat.le_of_ble_eq_true rfl⟩) ⟨fun a U g mk q => by obtain ⟨q0, q1, qP, qK, qD⟩ := q; exact ⟨q0, q1, qP, va_K.moved (u := U) (U := U.calling g mk a) (Vm.Alike.refl U.vm) qK, qD⟩, va_recv hKc hPc (ci := 2) (q0 := 0) rfl rfl, fun U hU hW => ⟨rfl, by rw [hU], by rw [hU]; exact hPc, va_K.moved hW.alike hKc, hDc.weaken (fun _ _ _ _ => trivial)⟩⟩ rfl rfl hl.1 rfl (lv_room (Nat.le_of_ble_eq_true rfl)) dX3_rest_7 ⟨Nat.le_of_ble_eq_true rfl, Nat.le_of_ble_eq_true rfl⟩) hS (fun q _ h => hFc q h) hFc (fun u9 t9 H1 locs ht hvm hw hB hz1 hk1 hS => ?_)
  obtain ⟨hP1, hD1⟩ := hB
  rw [ht] at hP1
  try dsimp only at hw
  obtain ⟨hP, hD⟩ := va_join (wr := [(sm, .inr (1, [.ref so])), (so, .inl (cO, 3, .inr (.inr (.inr (.inr g))))), (r0, .inl (cI, 511, .inl R0)), (r1, .inl (cI, 511, .inl R1)), (r2, .inl (cI, 511, .inl R2))]) (w1 := [(xo, .inr (2, [.int (nI k), .ref ra, .ref rb, .int (nI rs), .ref sm, .ref hh, .ref ps, .ref pb]))]) hP hD [5] [0, 1, 2, 3, 4] rfl rfl (by decide) (by decide) hk1 hFc hP1 hD1
  generalize H1 = H at hP hS ⊢
  have hP : va_P (dC, dI) vwCl [(sm, .inr (1, [.ref so])), (so, .inl (cO, 3, .inr (.inr (.inr (.inr g))))), (r0, .inl (cI, 511, .inl R0)), (r1, .inl (cI, 511, .inl R1)), (r2, .inl (cI, 511, .inl R2)), (xo, .inr (2, [.int (nI k), .ref ra, .ref rb, .int (nI rs), .ref sm, .ref hh, .ref ps, .ref pb]))] H := hP
  have hD : va_D A [(sm, .inr (1, [.ref so])), (so, .inl (cO, 3, .inr (.inr (.inr (.inr g))))), (r0, .inl (cI, 511, .inl R0)), (r1, .inl (cI, 511, .inl R1)), (r2, .inl (cI, 511, .inl R2)), (xo, .inr (2, [.int (nI k), .ref ra, .ref rb, .int (nI rs), .ref sm, .ref hh, .ref ps, .ref pb]))] := hD
  clear hPc hDc hKc hFc hP1 hD1 hk1 hz1 hvm ht
  clear hw
  refine lv_aload_n hx hb dX3_rest_10 rfl (lv_at hl 0 rfl) ?_
  refine va_get (D := (dC, dI)) (ci := 2) (v := .ref sm) (C := RX3) (T := TX3) (N := 8) hx hb hts (by decide +kernel) hown hK hP 5 rfl rfl 4 (by decide) (hts (.fieldLink RX3 28 "ThreePrimes" "sums" "LThreePrimes$Sums;") (by decide +kernel)) (fun _ h9 => h9) rfl dX3_rest_11 ?_
  refine lv_iload_n hx hb dX3_rest_14 rfl (lv_at hl 1 rfl) ?_
  refine lv_iload_n hx hb dX3_rest_15 rfl (lv_at hl 2 rfl) ?_
  have hPc := hP.sub (ws' := [(sm, .inr (1, [.ref so])), (so, .inl (cO, 3, .inr (.inr (.inr (.inr g))))), (r1, .inl (cI, 511, .inl R1))]) [0, 1, 3] rfl
  have hDc := hD.sub (ws' := [(sm, .inr (1, [.ref so])), (so, .inl (cO, 3, .inr (.inr (.inr (.inr g))))), (r1, .inl (cI, 511, .inl R1))]) [0, 1, 3] (by decide) rfl
  have hKc := hK.sub (tys' := [(cI, .int), (cO, .array .int)]) [0, 1] rfl
  have hFc := va_free (wc := [(sm, .inr (1, [.ref so])), (so, .inl (cO, 3, .inr (.inr (.inr (.inr g))))), (r1, .inl (cI, 511, .inl R1))]) hD hS hA [0, 1, 3] rfl
  refine va_calli (va_runV (As := [.int (nI 1), .int (nI j)]) (rest := []) ⟨hx, hb, hml, hown, hts⟩ (c_X2_remainder l dC dI cI cO sm so r1 g R1 511 1 j H.size hg1 (by omega) (by omega) (by omega)) (cwV 2 hts gX3_rest_X2_remainder rfl rfl rfl (by decide +kernel) ⟨Nat.le_of_ble_eq_true rfl, Nat.le_of_ble_eq_true rfl⟩) ⟨fun a U g mk q => by obtain ⟨q0, q1, qP, qK, qD⟩ := q; exact ⟨q0, q1, qP, va_K.moved (u := U) (U := U.calling g mk a) (Vm.Alike.refl U.vm) qK, qD⟩, va_recv hKc hPc (ci := 1) (q0 := 0) rfl rfl, fun U hU hW => ⟨rfl, by rw [hU], by rw [hU]; exact hPc, va_K.moved hW.alike hKc, hDc.weaken (fun _ _ _ _ => trivial)⟩⟩ rfl rfl hl.1 rfl (lv_room (Nat.le_of_ble_eq_true rfl)) dX3_rest_16 ⟨Nat.le_of_ble_eq_true rfl, Nat.le_of_ble_eq_true rfl⟩) hS (fun q _ h => hFc q h) hFc (fun r9 u9 t9 H1 locs ht hvm hw hB hz1 hk1 hS => ?_)
  obtain ⟨hP1, hD1⟩ := hB
  rw [ht] at hP1
  try dsimp only at hw
  obtain ⟨hP, hD⟩ := va_join (wr := [(r0, .inl (cI, 511, .inl R0)), (r2, .inl (cI, 511, .inl R2)), (xo, .inr (2, [.int (nI k), .ref ra, .ref rb, .int (nI rs), .ref sm, .ref hh, .ref ps, .ref pb]))]) (w1 := [(sm, .inr (1, [.ref so])), (so, .inl (cO, 3, .inr (.inr (.inr (.inr g))))), (r1, .inl (cI, 511, .inl R1))]) hP hD [0, 1, 3] [2, 4, 5] rfl rfl (by decide) (by decide) hk1 hFc hP1 hD1
  generalize H1 = H at hP hS ⊢
  have hP : va_P (dC, dI) vwCl [(r0, .inl (cI, 511, .inl R0)), (r2, .inl (cI, 511, .inl R2)), (xo, .inr (2, [.int (nI k), .ref ra, .ref rb, .int (nI rs), .ref sm, .ref hh, .ref ps, .ref pb])), (sm, .inr (1, [.ref so])), (so, .inl (cO, 3, .inr (.inr (.inr (.inr g))))), (r1, .inl (cI, 511, .inl R1))] H := hP
  have hD : va_D A [(r0, .inl (cI, 511, .inl R0)), (r2, .inl (cI, 511, .inl R2)), (xo, .inr (2, [.int (nI k), .ref ra, .ref rb, .int (nI rs), .ref sm, .ref hh, .ref ps, .ref pb])), (sm, .inr (1, [.ref so])), (so, .inl (cO, 3, .inr (.inr (.inr (.inr g))))), (r1, .inl (cI, 511, .inl R1))] := hD
  clear hPc hDc hKc hFc hP1 hD1 hk1 hz1 hvm ht
  subst hw
  have hP9 : va_P (dC, dI) vwCl [(xo, .inr (2, [.int (nI k), .ref ra, .ref rb, .int (nI rs), .ref sm, .ref hh, .ref ps, .ref pb])), (sm, .inr (1, [.ref so])), (so, .inl (cO, 3, .inr (.inr (.inr (.inr g))))), (r0, .inl (cI, 511, .inl R0)), (r1, .inl (cI, 511, .inl R1)), (r2, .inl (cI, 511, .inl R2))] H := hP.sub [2, 3, 4, 0, 5, 1] rfl
  have hD9 : va_D A [(xo, .inr (2, [.int (nI k), .ref ra, .ref rb, .int (nI rs), .ref sm, .ref hh, .ref ps, .ref pb])), (sm, .inr (1, [.ref so])), (so, .inl (cO, 3, .inr (.inr (.inr (.inr g))))), (r0, .inl (cI, 511, .inl R0)), (r1, .inl (cI, 511, .inl R1)), (r2, .inl (cI, 511, .inl R2))] := hD.sub [2, 3, 4, 0, 5, 1] (by decide) rfl
  exact W.iret (v := R1 j) hx hb hr (fun t ht hW => ⟨⟨R1 j, (), rfl, rfl, by rw [ht]; exact hP9, hD9⟩, hS.F ht⟩) hS.2.2 dX3_rest_19

abbrev q_X3_rest_2 (dC : Nat → ClassId) (dI : Nat → Nat → Nat) (xo ra rb sm hh ps pb k rs : Nat) (cI cO : ClassId) (so r0 r1 r2 : Nat) (g : Nat → Option Nat) (R0 R1 R2 : Nat → Int32) (j : Nat) (A : Nat → Prop) : Array Value → State → Outcome → State → Prop := va_Qi (fun (r : Int32) (u : Unit) => r = R2 j) (fun u t => va_P (dC, dI) vwCl [(xo, .inr (2, [.int (nI k), .ref ra, .ref rb, .int (nI rs), .ref sm, .ref hh, .ref ps, .ref pb])), (sm, .inr (1, [.ref so])), (so, .inl (cO, 3, .inr (.inr (.inr (.inr g))))), (r0, .inl (cI, 511, .inl R0)), (r1, .inl (cI, 511, .inl R1)), (r2, .inl (cI, 511, .inl R2))] t.heap ∧ va_D A [(xo, .inr (2, [.int (nI k), .ref ra, .ref rb, .int (nI rs), .ref sm, .ref hh, .ref ps, .ref pb])), (sm, .inr (1, [.ref so])), (so, .inl (cO, 3, .inr (.inr (.inr (.inr g))))), (r0, .inl (cI, 511, .inl R0)), (r1, .inl (cI, 511, .inl R1)), (r2, .inl (cI, 511, .inl R2))]) A
set_option maxHeartbeats 4000000 in
set_option maxRecDepth 100000 in
theorem c_X3_rest_2 (l : Launch) (dC : Nat → ClassId) (dI : Nat → Nat → Nat) (xo ra rb sm hh ps pb k rs : Nat) (cI cO : ClassId) (so r0 r1 r2 : Nat) (g : Nat → Option Nat) (R0 R1 R2 : Nat → Int32) (j : Nat) (sz : Nat) (tP : Nat) (sa : Nat → Nat) (hg0 : g 0 = some r0) (hg1 : g 1 = some r1) (hg2 : g 2 = some r2) (zj : j < rs) (zrs : rs ≤ 511) : Met l yX3_rest wsX3_rest ({ frames := 1, cells := 0, slots := 0, locals := 22 }) (va_Pc [.ref xo, .int (nI 2), .int (nI j)] (fun U => U.heap.size = sz ∧ va_P (dC, dI) vwCl [(xo, .inr (2, [.int (nI k), .ref ra, .ref rb, .int (nI rs), .ref sm, .ref hh, .ref ps, .ref pb])), (sm, .inr (1, [.ref so])), (so, .inl (cO, 3, .inr (.inr (.inr (.inr g))))), (r0, .inl (cI, 511, .inl R0)), (r1, .inl (cI, 511, .inl R1)), (r2, .inl (cI, 511, .inl R2))] U.heap ∧ va_K (dC, dI) vwCl [(cI, .int), (cO, .array .int)] U ∧ va_D (fun _ => True) [(xo, .inr (2, [.int (nI k), .ref ra, .ref rb, .int (nI rs), .ref sm, .ref hh, .ref ps, .ref pb])), (sm, .inr (1, [.ref so])), (so, .inl (cO, 3, .inr (.inr (.inr (.inr g))))), (r0, .inl (cI, 511, .inl R0)), (r1, .inl (cI, 511, .inl R1)), (r2, .inl (cI, 511, .inl R2))] ∧ amb tP sa (va_A [(xo, .inr (2, [.int (nI k), .ref ra, .ref rb, .int (nI rs), .ref sm, .ref hh, .ref ps, .ref pb])), (sm, .inr (1, [.ref so])), (so, .inl (cO, 3, .inr (.inr (.inr (.inr g))))), (r0, .inl (cI, 511, .inl R0)), (r1, .inl (cI, 511, .inl R1)), (r2, .inl (cI, 511, .inl R2))] sz) U U.heap)) (q_X3_rest_2 dC dI xo ra rb sm hh ps pb k rs cI cO so r0 r1 r2 g R0 R1 R2 j (va_A [(xo, .inr (2, [.int (nI k), .ref ra, .ref rb, .int (nI rs), .ref sm, .ref hh, .ref ps, .ref pb])), (sm, .inr (1, [.ref so])), (so, .inl (cO, 3, .inr (.inr (.inr (.inr g))))), (r0, .inl (cI, 511, .inl R0)), (r1, .inl (cI, 511, .inl R1)), (r2, .inl (cI, 511, .inl R2))] sz)) 0 0 (va_A [(xo, .inr (2, [.int (nI k), .ref ra, .ref rb, .int (nI rs), .ref sm, .ref hh, .ref ps, .ref pb])), (sm, .inr (1, [.ref so])), (so, .inl (cO, 3, .inr (.inr (.inr (.inr g))))), (r0, .inl (cI, 511, .inl R0)), (r1, .inl (cI, 511, .inl R1)), (r2, .inl (cI, 511, .inl R2))] sz) := by
  refine Met.ofW (cc := cX3_rest) (maxL := 3) (ret := (some .int)) (by decide) rfl ?_
  intro p e s m args below meth c s₁ B hml hv
  obtain ⟨rfl, hsz, hP, hK, hD0, hM⟩ := hv
  have hx := B.exec
  have hb := B.bytes
  have hr := B.returns
  have hts := atoms_spec (ws := wsX3_rest) B.pre
  have hown : s.vm.findClass RX3 = some m.cls := findClass_of_methodNamed B.named
  have hlocks := B.notSynchronized
  subst hsz
  have hD := hD0.self (sz := s.heap.size)
  generalize hAe : va_A [(xo, .inr (2, [.int (nI k), .ref ra, .ref rb, .int (nI rs), .ref sm, .ref hh, .ref ps, .ref pb])), (sm, .inr (1, [.ref so])), (so, .inl (cO, 3, .inr (.inr (.inr (.inr g))))), (r0, .inl (cI, 511, .inl R0)), (r1, .inl (cI, 511, .inl R1)), (r2, .inl (cI, 511, .inl R2))] s.heap.size = A at hD hM ⊢
  have hA : ∀ q : Nat, s.heap.size ≤ q → A q := fun q h => by rw [← hAe]; exact Or.inr h
  have hS : va_S A s.heap s.heap [] := va_S.rf
  have hP : va_P (dC, dI) vwCl [(xo, .inr (2, [.int (nI k), .ref ra, .ref rb, .int (nI rs), .ref sm, .ref hh, .ref ps, .ref pb])), (sm, .inr (1, [.ref so])), (so, .inl (cO, 3, .inr (.inr (.inr (.inr g))))), (r0, .inl (cI, 511, .inl R0)), (r1, .inl (cI, 511, .inl R1)), (r2, .inl (cI, 511, .inl R2))] s.heap := hP
  have hl := lv_entry (([.ref xo, .int (nI 2), .int (nI j)] : List Value)) (n := 3) (Nat.le_of_ble_eq_true rfl)
  rw [lg_entry_eq]
  generalize (lg_sl (([.ref xo, .int (nI 2), .int (nI j)] : List Value)) ++ List.replicate (3 - (lg_sl (([.ref xo, .int (nI 2), .int (nI j)] : List Value))).length) Slot.unset).toArray = ls at hl ⊢
  have hl : lv_has ls 3 [(0, .ref xo), (1, .int (nI 2)), (2, .int (nI j))] := hl
  obtain ⟨H, hHe⟩ : ∃ H : Heap, H = s.heap := ⟨_, rfl⟩
  rw [← hHe] at hP
  have hS : va_S A s.heap H [] := by rw [hHe]; exact hS
  obtain ⟨locs, hlo⟩ : ∃ L : List Loc, L = [] := ⟨_, rfl⟩
  rw [← hlo] at hS ⊢
  rw [← hHe]
  refine lv_aload_n hx hb dX3_rest_0 rfl (lv_at hl 0 rfl) ?_
  refine lv_iload_n hx hb dX3_rest_1 rfl (lv_at hl 1 rfl) ?_
  have hPc := hP.sub (ws' := [(xo, .inr (2, [.int (nI k), .ref ra, .ref rb, .int (nI rs), .ref sm, .ref hh, .ref ps, .ref pb]))]) [0] rfl
  have hDc := hD.sub (ws' := [(xo, .inr (2, [.int (nI k), .ref ra, .ref rb, .int (nI rs), .ref sm, .ref hh, .ref ps, .ref pb]))]) [0] (by decide) rfl
  have hKc := hK.sub (tys' := []) [] rfl
  have hFc := va_free (wc := [(xo, .inr (2, [.int (nI k), .ref ra, .ref rb, .int (nI rs), .ref sm, .ref hh, .ref ps, .ref pb]))]) hD hS hA [0] rfl
  refine va_callv (va_runV (As := [.int (nI 2)]) (rest := []) ⟨hx, hb, hml, hown, hts⟩ (c_X3_requirePrime_ok l dC dI xo ra rb sm hh ps pb k rs 2 H.size tP sa (by omega)) (cwV 1 hts gX3_rest_X3_requirePrime rfl rfl rfl (by decide +kernel) ⟨Nat.le_of_ble_eq_true rfl, Nat.le_of_ble_eq_true rfl⟩) ⟨fun a U g mk q => by obtain ⟨q0, q1, qP, qK, qD, qM⟩ := q; exact ⟨q0, q1, qP, va_K.moved (u := U) (U := U.calling g mk a) (Vm.Alike.refl U.vm) qK, qD, amb_same (U := U) (U' := U.calling g mk a) rfl rfl qM⟩, va_recv hKc hPc (ci := 2) (q0 := 0) rfl rfl, fun U hU hW => ⟨rfl, by rw [hU], by rw [hU]; exact hPc, va_K.moved hW.alike hKc, hDc.weaken (fun _ _ _ _ => trivial), amb_pass hM hS hFc hW hU⟩⟩ rfl rfl hl.1 rfl (lv_room (Nat.le_of_ble_eq_true rfl)) dX3_rest_2 ⟨Nat.le_of_ble_eq_true rfl, Nat.le_of_ble_eq_true rfl⟩) hS (fun q _ h => hFc q h) hFc (fun u9 t9 H1 locs ht hvm hw hB hz1 hk1 hS => ?_)
  obtain ⟨hP1, hD1⟩ := hB
  rw [ht] at hP1
  try dsimp only at hw
  obtain ⟨hP, hD⟩ := va_join (wr := [(sm, .inr (1, [.ref so])), (so, .inl (cO, 3, .inr (.inr (.inr (.inr g))))), (r0, .inl (cI, 511, .inl R0)), (r1, .inl (cI, 511, .inl R1)), (r2, .inl (cI, 511, .inl R2))]) (w1 := [(xo, .inr (2, [.int (nI k), .ref ra, .ref rb, .int (nI rs), .ref sm, .ref hh, .ref ps, .ref pb]))]) hP hD [0] [1, 2, 3, 4, 5] rfl rfl (by decide) (by decide) hk1 hFc hP1 hD1
  generalize H1 = H at hP hS ⊢
  have hP : va_P (dC, dI) vwCl [(sm, .inr (1, [.ref so])), (so, .inl (cO, 3, .inr (.inr (.inr (.inr g))))), (r0, .inl (cI, 511, .inl R0)), (r1, .inl (cI, 511, .inl R1)), (r2, .inl (cI, 511, .inl R2)), (xo, .inr (2, [.int (nI k), .ref ra, .ref rb, .int (nI rs), .ref sm, .ref hh, .ref ps, .ref pb]))] H := hP
  have hD : va_D A [(sm, .inr (1, [.ref so])), (so, .inl (cO, 3, .inr (.inr (.inr (.inr g))))), (r0, .inl (cI, 511, .inl R0)), (r1, .inl (cI, 511, .inl R1)), (r2, .inl (cI, 511, .inl R2)), (xo, .inr (2, [.int (nI k), .ref ra, .ref rb, .int (nI rs), .ref sm, .ref hh, .ref ps, .ref pb]))] := hD
  clear hPc hDc hKc hFc hP1 hD1 hk1 hz1 hvm ht
  clear hw
  refine lv_aload_n hx hb dX3_rest_5 rfl (lv_at hl 0 rfl) ?_
  refine lv_iload_n hx hb dX3_rest_6 rfl (lv_at hl 2 rfl) ?_
  have hPc := hP.sub (ws' := [(xo, .inr (2, [.int (nI k), .ref ra, .ref rb, .int (nI rs), .ref sm, .ref hh, .ref ps, .ref pb]))]) [5] rfl
  have hDc := hD.sub (ws' := [(xo, .inr (2, [.int (nI k), .ref ra, .ref rb, .int (nI rs), .ref sm, .ref hh, .ref ps, .ref pb]))]) [5] (by decide) rfl
  have hKc := hK.sub (tys' := []) [] rfl
  have hFc := va_free (wc := [(xo, .inr (2, [.int (nI k), .ref ra, .ref rb, .int (nI rs), .ref sm, .ref hh, .ref ps, .ref pb]))]) hD hS hA [5] rfl
  refine va_callv (va_runV (As := [.int (nI j)]) (rest := []) ⟨hx, hb, hml, hown, hts⟩ (c_X3_requireResult_ok l dC dI xo ra rb sm hh ps pb k rs j H.size (by omega) (by omega)) (cwV 1 hts gX3_rest_X3_requireResult rfl rfl rfl (by decide +kernel) ⟨Nat.le_of_ble_eq_true rfl, Nat.le_of_ble_eq_true rfl⟩) ⟨fun a U g mk q => by obtain ⟨q0, q1, qP, qK, qD⟩ := q; exact ⟨q0, q1, qP, va_K.moved (u := U) (U := U.calling g mk a) (Vm.Alike.refl U.vm) qK, qD⟩, va_recv hKc hPc (ci := 2) (q0 := 0) rfl rfl, fun U hU hW => ⟨rfl, by rw [hU], by rw [hU]; exact hPc, va_K.moved hW.alike hKc, hDc.weaken (fun _ _ _ _ => trivial)⟩⟩ rfl rfl hl.1 rfl (lv_room (Nat.le_of_ble_eq_true rfl)) dX3_rest_7 ⟨Nat.le_of_ble_eq_true rfl, Nat.le_of_ble_eq_true rfl⟩) hS (fun q _ h => hFc q h) hFc (fun u9 t9 H1 locs ht hvm hw hB hz1 hk1 hS => ?_)
  obtain ⟨hP1, hD1⟩ := hB
  rw [ht] at hP1
  try dsimp only at hw
  obtain ⟨hP, hD⟩ := va_join (wr := [(sm, .inr (1, [.ref so])), (so, .inl (cO, 3, .inr (.inr (.inr (.inr g))))), (r0, .inl (cI, 511, .inl R0)), (r1, .inl (cI, 511, .inl R1)), (r2, .inl (cI, 511, .inl R2))]) (w1 := [(xo, .inr (2, [.int (nI k), .ref ra, .ref rb, .int (nI rs), .ref sm, .ref hh, .ref ps, .ref pb]))]) hP hD [5] [0, 1, 2, 3, 4] rfl rfl (by decide) (by decide) hk1 hFc hP1 hD1
  generalize H1 = H at hP hS ⊢
  have hP : va_P (dC, dI) vwCl [(sm, .inr (1, [.ref so])), (so, .inl (cO, 3, .inr (.inr (.inr (.inr g))))), (r0, .inl (cI, 511, .inl R0)), (r1, .inl (cI, 511, .inl R1)), (r2, .inl (cI, 511, .inl R2)), (xo, .inr (2, [.int (nI k), .ref ra, .ref rb, .int (nI rs), .ref sm, .ref hh, .ref ps, .ref pb]))] H := hP
  have hD : va_D A [(sm, .inr (1, [.ref so])), (so, .inl (cO, 3, .inr (.inr (.inr (.inr g))))), (r0, .inl (cI, 511, .inl R0)), (r1, .inl (cI, 511, .inl R1)), (r2, .inl (cI, 511, .inl R2)), (xo, .inr (2, [.int (nI k), .ref ra, .ref rb, .int (nI rs), .ref sm, .ref hh, .ref ps, .ref pb]))] := hD
  clear hPc hDc hKc hFc hP1 hD1 hk1 hz1 hvm ht
  clear hw
  refine lv_aload_n hx hb dX3_rest_10 rfl (lv_at hl 0 rfl) ?_
  refine va_get (D := (dC, dI)) (ci := 2) (v := .ref sm) (C := RX3) (T := TX3) (N := 8) hx hb hts (by decide +kernel) hown hK hP 5 rfl rfl 4 (by decide) (hts (.fieldLink RX3 28 "ThreePrimes" "sums" "LThreePrimes$Sums;") (by decide +kernel)) (fun _ h9 => h9) rfl dX3_rest_11 ?_
  refine lv_iload_n hx hb dX3_rest_14 rfl (lv_at hl 1 rfl) ?_
  refine lv_iload_n hx hb dX3_rest_15 rfl (lv_at hl 2 rfl) ?_
  have hPc := hP.sub (ws' := [(sm, .inr (1, [.ref so])), (so, .inl (cO, 3, .inr (.inr (.inr (.inr g))))), (r2, .inl (cI, 511, .inl R2))]) [0, 1, 4] rfl
  have hDc := hD.sub (ws' := [(sm, .inr (1, [.ref so])), (so, .inl (cO, 3, .inr (.inr (.inr (.inr g))))), (r2, .inl (cI, 511, .inl R2))]) [0, 1, 4] (by decide) rfl
  have hKc := hK.sub (tys' := [(cI, .int), (cO, .array .int)]) [0, 1] rfl
  have hFc := va_free (wc := [(sm, .inr (1, [.ref so])), (so, .inl (cO, 3, .inr (.inr (.inr (.inr g))))), (r2, .inl (cI, 511, .inl R2))]) hD hS hA [0, 1, 4] rfl
  refine va_calli (va_runV (As := [.int (nI 2), .int (nI j)]) (rest := []) ⟨hx, hb, hml, hown, hts⟩ (c_X2_remainder l dC dI cI cO sm so r2 g R2 511 2 j H.size hg2 (by omega) (by omega) (by omega)) (cwV 2 hts gX3_rest_X2_remainder rfl rfl rfl (by decide +kernel) ⟨Nat.le_of_ble_eq_true rfl, Nat.le_of_ble_eq_true rfl⟩) ⟨fun a U g mk q => by obtain ⟨q0, q1, qP, qK, qD⟩ := q; exact ⟨q0, q1, qP, va_K.moved (u := U) (U := U.calling g mk a) (Vm.Alike.refl U.vm) qK, qD⟩, va_recv hKc hPc (ci := 1) (q0 := 0) rfl rfl, fun U hU hW => ⟨rfl, by rw [hU], by rw [hU]; exact hPc, va_K.moved hW.alike hKc, hDc.weaken (fun _ _ _ _ => trivial)⟩⟩ rfl rfl hl.1 rfl (lv_room (Nat.le_of_ble_eq_true rfl)) dX3_rest_16 ⟨Nat.le_of_ble_eq_true rfl, Nat.le_of_ble_eq_true rfl⟩) hS (fun q _ h => hFc q h) hFc (fun r9 u9 t9 H1 locs ht hvm hw hB hz1 hk1 hS => ?_)
  obtain ⟨hP1, hD1⟩ := hB
  rw [ht] at hP1
  try dsimp only at hw
  obtain ⟨hP, hD⟩ := va_join (wr := [(r0, .inl (cI, 511, .inl R0)), (r1, .inl (cI, 511, .inl R1)), (xo, .inr (2, [.int (nI k), .ref ra, .ref rb, .int (nI rs), .ref sm, .ref hh, .ref ps, .ref pb]))]) (w1 := [(sm, .inr (1, [.ref so])), (so, .inl (cO, 3, .inr (.inr (.inr (.inr g))))), (r2, .inl (cI, 511, .inl R2))]) hP hD [0, 1, 4] [2, 3, 5] rfl rfl (by decide) (by decide) hk1 hFc hP1 hD1
  generalize H1 = H at hP hS ⊢
  have hP : va_P (dC, dI) vwCl [(r0, .inl (cI, 511, .inl R0)), (r1, .inl (cI, 511, .inl R1)), (xo, .inr (2, [.int (nI k), .ref ra, .ref rb, .int (nI rs), .ref sm, .ref hh, .ref ps, .ref pb])), (sm, .inr (1, [.ref so])), (so, .inl (cO, 3, .inr (.inr (.inr (.inr g))))), (r2, .inl (cI, 511, .inl R2))] H := hP
  have hD : va_D A [(r0, .inl (cI, 511, .inl R0)), (r1, .inl (cI, 511, .inl R1)), (xo, .inr (2, [.int (nI k), .ref ra, .ref rb, .int (nI rs), .ref sm, .ref hh, .ref ps, .ref pb])), (sm, .inr (1, [.ref so])), (so, .inl (cO, 3, .inr (.inr (.inr (.inr g))))), (r2, .inl (cI, 511, .inl R2))] := hD
  clear hPc hDc hKc hFc hP1 hD1 hk1 hz1 hvm ht
  subst hw
  have hP9 : va_P (dC, dI) vwCl [(xo, .inr (2, [.int (nI k), .ref ra, .ref rb, .int (nI rs), .ref sm, .ref hh, .ref ps, .ref pb])), (sm, .inr (1, [.ref so])), (so, .inl (cO, 3, .inr (.inr (.inr (.inr g))))), (r0, .inl (cI, 511, .inl R0)), (r1, .inl (cI, 511, .inl R1)), (r2, .inl (cI, 511, .inl R2))] H := hP.sub [2, 3, 4, 0, 1, 5] rfl
  have hD9 : va_D A [(xo, .inr (2, [.int (nI k), .ref ra, .ref rb, .int (nI rs), .ref sm, .ref hh, .ref ps, .ref pb])), (sm, .inr (1, [.ref so])), (so, .inl (cO, 3, .inr (.inr (.inr (.inr g))))), (r0, .inl (cI, 511, .inl R0)), (r1, .inl (cI, 511, .inl R1)), (r2, .inl (cI, 511, .inl R2))] := hD.sub [2, 3, 4, 0, 1, 5] (by decide) rfl
  exact W.iret (v := R2 j) hx hb hr (fun t ht hW => ⟨⟨R2 j, (), rfl, rfl, by rw [ht]; exact hP9, hD9⟩, hS.F ht⟩) hS.2.2 dX3_rest_19

abbrev q_X3_rest_badP (dC : Nat → ClassId) (dI : Nat → Nat → Nat) (xo ra rb sm hh ps pb k rs : Nat) (i v : Int32) (A : Nat → Prop) : Array Value → State → Outcome → State → Prop := va_Qi (fun (r : Int32) (u : Unit) => False) (fun u t => va_P (dC, dI) vwCl [(xo, .inr (2, [.int (nI k), .ref ra, .ref rb, .int (nI rs), .ref sm, .ref hh, .ref ps, .ref pb]))] t.heap ∧ va_D A [(xo, .inr (2, [.int (nI k), .ref ra, .ref rb, .int (nI rs), .ref sm, .ref hh, .ref ps, .ref pb]))]) A
abbrev x_X3_rest_badP (dC : Nat → ClassId) (dI : Nat → Nat → Nat) (xo ra rb sm hh ps pb k rs : Nat) (i v : Int32) (A : Nat → Prop) : String → State → State → Prop := vx_X (fun _ : Unit => True) (fun E _ t => (E = "java/lang/IllegalArgumentException") ∧ va_P (dC, dI) vwCl [(xo, .inr (2, [.int (nI k), .ref ra, .ref rb, .int (nI rs), .ref sm, .ref hh, .ref ps, .ref pb]))] t.heap ∧ va_D A [(xo, .inr (2, [.int (nI k), .ref ra, .ref rb, .int (nI rs), .ref sm, .ref hh, .ref ps, .ref pb]))]) A
set_option maxHeartbeats 4000000 in
set_option maxRecDepth 100000 in
theorem c_X3_rest_badP (l : Launch) (dC : Nat → ClassId) (dI : Nat → Nat → Nat) (xo ra rb sm hh ps pb k rs : Nat) (i v : Int32) (sz : Nat) (hl9 : l.stackTraces = false) (tP : Nat) (sa : Nat → Nat) (hbad : i < 0 ∨ nI 3 ≤ i) : vx_Met l yX3_rest wsX3_rest ({ frames := 7, cells := 1, slots := 6, locals := 103 }) (va_Pc [.ref xo, .int i, .int v] (fun U => U.heap.size = sz ∧ va_P (dC, dI) vwCl [(xo, .inr (2, [.int (nI k), .ref ra, .ref rb, .int (nI rs), .ref sm, .ref hh, .ref ps, .ref pb]))] U.heap ∧ va_K (dC, dI) vwCl [] U ∧ va_D (fun _ => True) [(xo, .inr (2, [.int (nI k), .ref ra, .ref rb, .int (nI rs), .ref sm, .ref hh, .ref ps, .ref pb]))] ∧ amb tP sa (va_A [(xo, .inr (2, [.int (nI k), .ref ra, .ref rb, .int (nI rs), .ref sm, .ref hh, .ref ps, .ref pb]))] sz) U U.heap)) (q_X3_rest_badP dC dI xo ra rb sm hh ps pb k rs i v (va_A [(xo, .inr (2, [.int (nI k), .ref ra, .ref rb, .int (nI rs), .ref sm, .ref hh, .ref ps, .ref pb]))] sz)) (x_X3_rest_badP dC dI xo ra rb sm hh ps pb k rs i v (va_A [(xo, .inr (2, [.int (nI k), .ref ra, .ref rb, .int (nI rs), .ref sm, .ref hh, .ref ps, .ref pb]))] sz)) 1 6 (va_A [(xo, .inr (2, [.int (nI k), .ref ra, .ref rb, .int (nI rs), .ref sm, .ref hh, .ref ps, .ref pb]))] sz) := by
  refine vx_ofW (cc := cX3_rest) (maxL := 3) (ret := (some .int)) (by decide) rfl ?_
  intro p e s m args below meth c s₁ B hml htab hv
  obtain ⟨rfl, hsz, hP, hK, hD0, hM⟩ := hv
  have hx := B.exec
  have hb := B.bytes
  have hr := B.returns
  have hts := atoms_spec (ws := wsX3_rest) B.pre
  have hown : s.vm.findClass RX3 = some m.cls := findClass_of_methodNamed B.named
  have hlocks := B.notSynchronized
  subst hsz
  have hD := hD0.self (sz := s.heap.size)
  generalize hAe : va_A [(xo, .inr (2, [.int (nI k), .ref ra, .ref rb, .int (nI rs), .ref sm, .ref hh, .ref ps, .ref pb]))] s.heap.size = A at hD hM ⊢
  have hA : ∀ q : Nat, s.heap.size ≤ q → A q := fun q h => by rw [← hAe]; exact Or.inr h
  have hS : va_S A s.heap s.heap [] := va_S.rf
  have hP : va_P (dC, dI) vwCl [(xo, .inr (2, [.int (nI k), .ref ra, .ref rb, .int (nI rs), .ref sm, .ref hh, .ref ps, .ref pb]))] s.heap := hP
  have hl := lv_entry (([.ref xo, .int i, .int v] : List Value)) (n := 3) (Nat.le_of_ble_eq_true rfl)
  rw [lg_entry_eq]
  generalize (lg_sl (([.ref xo, .int i, .int v] : List Value)) ++ List.replicate (3 - (lg_sl (([.ref xo, .int i, .int v] : List Value))).length) Slot.unset).toArray = ls at hl ⊢
  have hl : lv_has ls 3 [(0, .ref xo), (1, .int i), (2, .int v)] := hl
  obtain ⟨H, hHe⟩ : ∃ H : Heap, H = s.heap := ⟨_, rfl⟩
  rw [← hHe] at hP
  have hS : va_S A s.heap H [] := by rw [hHe]; exact hS
  obtain ⟨locs, hlo⟩ : ∃ L : List Loc, L = [] := ⟨_, rfl⟩
  rw [← hlo] at hS ⊢
  rw [← hHe]
  refine lv_aload_n hx hb dX3_rest_0 rfl (lv_at hl 0 rfl) ?_
  refine lv_iload_n hx hb dX3_rest_1 rfl (lv_at hl 1 rfl) ?_
  have hPc := hP.sub (ws' := [(xo, .inr (2, [.int (nI k), .ref ra, .ref rb, .int (nI rs), .ref sm, .ref hh, .ref ps, .ref pb]))]) [0] rfl
  have hDc := hD.sub (ws' := [(xo, .inr (2, [.int (nI k), .ref ra, .ref rb, .int (nI rs), .ref sm, .ref hh, .ref ps, .ref pb]))]) [0] (by decide) rfl
  have hKc := hK.sub (tys' := []) [] rfl
  have hFc := va_free (wc := [(xo, .inr (2, [.int (nI k), .ref ra, .ref rb, .int (nI rs), .ref sm, .ref hh, .ref ps, .ref pb]))]) hD hS hA [0] rfl
  refine vx_callv (vx_runV (As := [.int i]) (rest := []) ⟨hx, hb, hml, hown, hts⟩ (c_X3_requirePrime_bad l dC dI xo ra rb sm hh ps pb k rs i H.size hl9 tP sa hbad) (cwV 1 hts gX3_rest_X3_requirePrime rfl rfl rfl (by decide +kernel) ⟨Nat.le_of_ble_eq_true rfl, Nat.le_of_ble_eq_true rfl⟩) ⟨fun a U g mk q => by obtain ⟨q0, q1, qP, qK, qD, qM⟩ := q; exact ⟨q0, q1, qP, va_K.moved (u := U) (U := U.calling g mk a) (Vm.Alike.refl U.vm) qK, qD, amb_same (U := U) (U' := U.calling g mk a) rfl rfl qM⟩, va_recv hKc hPc (ci := 2) (q0 := 0) rfl rfl, fun U hU hW => ⟨rfl, by rw [hU], by rw [hU]; exact hPc, va_K.moved hW.alike hKc, hDc.weaken (fun _ _ _ _ => trivial), amb_pass hM hS hFc hW hU⟩⟩ rfl rfl hl.1 rfl (lv_room (Nat.le_of_ble_eq_true rfl)) dX3_rest_2 ⟨Nat.le_of_ble_eq_true rfl, Nat.le_of_ble_eq_true rfl⟩) hS (fun q _ h => hFc q h) hFc (fun q _ h => hFc q h) (fun E9 ce9 q9 u9 t9 H1 locs ht hvm hw hB hz1 hk1 hS hce hcv hcl => ?_) (fun u9 t9 H1 locs ht hvm hw hB hz1 hk1 hS => ?_)
  · obtain ⟨hxp, hP1, hD1⟩ := hB
    rw [ht] at hP1
    obtain ⟨hP, hD⟩ := va_join (wr := []) (w1 := [(xo, .inr (2, [.int (nI k), .ref ra, .ref rb, .int (nI rs), .ref sm, .ref hh, .ref ps, .ref pb]))]) hP hD [0] [] rfl rfl (by decide) (by decide) hk1 hFc hP1 hD1
    have hP9 : va_P (dC, dI) vwCl [(xo, .inr (2, [.int (nI k), .ref ra, .ref rb, .int (nI rs), .ref sm, .ref hh, .ref ps, .ref pb]))] H1 := hP.sub [0] rfl
    have hD9 : va_D A [(xo, .inr (2, [.int (nI k), .ref ra, .ref rb, .int (nI rs), .ref sm, .ref hh, .ref ps, .ref pb]))] := hD.sub [0] (by decide) rfl
    exact vx_out (E := E9) (fun x h => (htab x h).elim) hlocks hce hcv hcl (fun t ht9 hal => ⟨(), trivial, ⟨hxp, by rw [ht9]; exact hP9, hD9⟩, hS.F ht9⟩) hS.2.2 (Nat.le_of_ble_eq_true rfl) (Nat.le_of_ble_eq_true rfl)
  exact hw.elim

abbrev q_X3_rest_badI (dC : Nat → ClassId) (dI : Nat → Nat → Nat) (xo ra rb sm hh ps pb k rs : Nat) (q : Nat) (i : Int32) (A : Nat → Prop) : Array Value → State → Outcome → State → Prop := va_Qi (fun (r : Int32) (u : Unit) => False) (fun u t => va_P (dC, dI) vwCl [(xo, .inr (2, [.int (nI k), .ref ra, .ref rb, .int (nI rs), .ref sm, .ref hh, .ref ps, .ref pb]))] t.heap ∧ va_D A [(xo, .inr (2, [.int (nI k), .ref ra, .ref rb, .int (nI rs), .ref sm, .ref hh, .ref ps, .ref pb]))]) A
abbrev x_X3_rest_badI (dC : Nat → ClassId) (dI : Nat → Nat → Nat) (xo ra rb sm hh ps pb k rs : Nat) (q : Nat) (i : Int32) (A : Nat → Prop) : String → State → State → Prop := vx_X (fun _ : Unit => True) (fun E _ t => (E = "java/lang/IndexOutOfBoundsException") ∧ va_P (dC, dI) vwCl [(xo, .inr (2, [.int (nI k), .ref ra, .ref rb, .int (nI rs), .ref sm, .ref hh, .ref ps, .ref pb]))] t.heap ∧ va_D A [(xo, .inr (2, [.int (nI k), .ref ra, .ref rb, .int (nI rs), .ref sm, .ref hh, .ref ps, .ref pb]))]) A
set_option maxHeartbeats 4000000 in
set_option maxRecDepth 100000 in
theorem c_X3_rest_badI (l : Launch) (dC : Nat → ClassId) (dI : Nat → Nat → Nat) (xo ra rb sm hh ps pb k rs : Nat) (q : Nat) (i : Int32) (sz : Nat) (hl9 : l.stackTraces = false) (tP : Nat) (sa : Nat → Nat) (zq : q < 3) (hbad : i < 0 ∨ nI rs ≤ i) : vx_Met l yX3_rest wsX3_rest ({ frames := 7, cells := 1, slots := 6, locals := 103 }) (va_Pc [.ref xo, .int (nI q), .int i] (fun U => U.heap.size = sz ∧ va_P (dC, dI) vwCl [(xo, .inr (2, [.int (nI k), .ref ra, .ref rb, .int (nI rs), .ref sm, .ref hh, .ref ps, .ref pb]))] U.heap ∧ va_K (dC, dI) vwCl [] U ∧ va_D (fun _ => True) [(xo, .inr (2, [.int (nI k), .ref ra, .ref rb, .int (nI rs), .ref sm, .ref hh, .ref ps, .ref pb]))] ∧ amb tP sa (va_A [(xo, .inr (2, [.int (nI k), .ref ra, .ref rb, .int (nI rs), .ref sm, .ref hh, .ref ps, .ref pb]))] sz) U U.heap)) (q_X3_rest_badI dC dI xo ra rb sm hh ps pb k rs q i (va_A [(xo, .inr (2, [.int (nI k), .ref ra, .ref rb, .int (nI rs), .ref sm, .ref hh, .ref ps, .ref pb]))] sz)) (x_X3_rest_badI dC dI xo ra rb sm hh ps pb k rs q i (va_A [(xo, .inr (2, [.int (nI k), .ref ra, .ref rb, .int (nI rs), .ref sm, .ref hh, .ref ps, .ref pb]))] sz)) 1 6 (va_A [(xo, .inr (2, [.int (nI k), .ref ra, .ref rb, .int (nI rs), .ref sm, .ref hh, .ref ps, .ref pb]))] sz) := by
  refine vx_ofW (cc := cX3_rest) (maxL := 3) (ret := (some .int)) (by decide) rfl ?_
  intro p e s m args below meth c s₁ B hml htab hv
  obtain ⟨rfl, hsz, hP, hK, hD0, hM⟩ := hv
  have hx := B.exec
  have hb := B.bytes
  have hr := B.returns
  have hts := atoms_spec (ws := wsX3_rest) B.pre
  have hown : s.vm.findClass RX3 = some m.cls := findClass_of_methodNamed B.named
  have hlocks := B.notSynchronized
  subst hsz
  have hD := hD0.self (sz := s.heap.size)
  generalize hAe : va_A [(xo, .inr (2, [.int (nI k), .ref ra, .ref rb, .int (nI rs), .ref sm, .ref hh, .ref ps, .ref pb]))] s.heap.size = A at hD hM ⊢
  have hA : ∀ q : Nat, s.heap.size ≤ q → A q := fun q h => by rw [← hAe]; exact Or.inr h
  have hS : va_S A s.heap s.heap [] := va_S.rf
  have hP : va_P (dC, dI) vwCl [(xo, .inr (2, [.int (nI k), .ref ra, .ref rb, .int (nI rs), .ref sm, .ref hh, .ref ps, .ref pb]))] s.heap := hP
  have hl := lv_entry (([.ref xo, .int (nI q), .int i] : List Value)) (n := 3) (Nat.le_of_ble_eq_true rfl)
  rw [lg_entry_eq]
  generalize (lg_sl (([.ref xo, .int (nI q), .int i] : List Value)) ++ List.replicate (3 - (lg_sl (([.ref xo, .int (nI q), .int i] : List Value))).length) Slot.unset).toArray = ls at hl ⊢
  have hl : lv_has ls 3 [(0, .ref xo), (1, .int (nI q)), (2, .int i)] := hl
  obtain ⟨H, hHe⟩ : ∃ H : Heap, H = s.heap := ⟨_, rfl⟩
  rw [← hHe] at hP
  have hS : va_S A s.heap H [] := by rw [hHe]; exact hS
  obtain ⟨locs, hlo⟩ : ∃ L : List Loc, L = [] := ⟨_, rfl⟩
  rw [← hlo] at hS ⊢
  rw [← hHe]
  refine lv_aload_n hx hb dX3_rest_0 rfl (lv_at hl 0 rfl) ?_
  refine lv_iload_n hx hb dX3_rest_1 rfl (lv_at hl 1 rfl) ?_
  have hPc := hP.sub (ws' := [(xo, .inr (2, [.int (nI k), .ref ra, .ref rb, .int (nI rs), .ref sm, .ref hh, .ref ps, .ref pb]))]) [0] rfl
  have hDc := hD.sub (ws' := [(xo, .inr (2, [.int (nI k), .ref ra, .ref rb, .int (nI rs), .ref sm, .ref hh, .ref ps, .ref pb]))]) [0] (by decide) rfl
  have hKc := hK.sub (tys' := []) [] rfl
  have hFc := va_free (wc := [(xo, .inr (2, [.int (nI k), .ref ra, .ref rb, .int (nI rs), .ref sm, .ref hh, .ref ps, .ref pb]))]) hD hS hA [0] rfl
  refine va_callv (va_runV (As := [.int (nI q)]) (rest := []) ⟨hx, hb, hml, hown, hts⟩ (c_X3_requirePrime_ok l dC dI xo ra rb sm hh ps pb k rs q H.size tP sa (by omega)) (cwV 1 hts gX3_rest_X3_requirePrime rfl rfl rfl (by decide +kernel) ⟨Nat.le_of_ble_eq_true rfl, Nat.le_of_ble_eq_true rfl⟩) ⟨fun a U g mk q => by obtain ⟨q0, q1, qP, qK, qD, qM⟩ := q; exact ⟨q0, q1, qP, va_K.moved (u := U) (U := U.calling g mk a) (Vm.Alike.refl U.vm) qK, qD, amb_same (U := U) (U' := U.calling g mk a) rfl rfl qM⟩, va_recv hKc hPc (ci := 2) (q0 := 0) rfl rfl, fun U hU hW => ⟨rfl, by rw [hU], by rw [hU]; exact hPc, va_K.moved hW.alike hKc, hDc.weaken (fun _ _ _ _ => trivial), amb_pass hM hS hFc hW hU⟩⟩ rfl rfl hl.1 rfl (lv_room (Nat.le_of_ble_eq_true rfl)) dX3_rest_2 ⟨Nat.le_of_ble_eq_true rfl, Nat.le_of_ble_eq_true rfl⟩) hS (fun q _ h => hFc q h) hFc (fun u9 t9 H1 locs ht hvm hw hB hz1 hk1 hS => ?_)
  obtain ⟨hP1, hD1⟩ := hB
  rw [ht] at hP1
  try dsimp only at hw
  obtain ⟨hP, hD⟩ := va_join (wr := []) (w1 := [(xo, .inr (2, [.int (nI k), .ref ra, .ref rb, .int (nI rs), .ref sm, .ref hh, .ref ps, .ref pb]))]) hP hD [0] [] rfl rfl (by decide) (by decide) hk1 hFc hP1 hD1
  generalize H1 = H at hP hS ⊢
  have hP : va_P (dC, dI) vwCl [(xo, .inr (2, [.int (nI k), .ref ra, .ref rb, .int (nI rs), .ref sm, .ref hh, .ref ps, .ref pb]))] H := hP
  have hD : va_D A [(xo, .inr (2, [.int (nI k), .ref ra, .ref rb, .int (nI rs), .ref sm, .ref hh, .ref ps, .ref pb]))] := hD
  clear hPc hDc hKc hFc hP1 hD1 hk1 hz1 hvm ht
  clear hw
  refine lv_aload_n hx hb dX3_rest_5 rfl (lv_at hl 0 rfl) ?_
  refine lv_iload_n hx hb dX3_rest_6 rfl (lv_at hl 2 rfl) ?_
  have hPc := hP.sub (ws' := [(xo, .inr (2, [.int (nI k), .ref ra, .ref rb, .int (nI rs), .ref sm, .ref hh, .ref ps, .ref pb]))]) [0] rfl
  have hDc := hD.sub (ws' := [(xo, .inr (2, [.int (nI k), .ref ra, .ref rb, .int (nI rs), .ref sm, .ref hh, .ref ps, .ref pb]))]) [0] (by decide) rfl
  have hKc := hK.sub (tys' := []) [] rfl
  have hFc := va_free (wc := [(xo, .inr (2, [.int (nI k), .ref ra, .ref rb, .int (nI rs), .ref sm, .ref hh, .ref ps, .ref pb]))]) hD hS hA [0] rfl
  refine vx_callv (vx_runV (As := [.int i]) (rest := []) ⟨hx, hb, hml, hown, hts⟩ (c_X3_requireResult_bad l dC dI xo ra rb sm hh ps pb k rs i H.size hl9 tP sa hbad) (cwV 1 hts gX3_rest_X3_requireResult rfl rfl rfl (by decide +kernel) ⟨Nat.le_of_ble_eq_true rfl, Nat.le_of_ble_eq_true rfl⟩) ⟨fun a U g mk q => by obtain ⟨q0, q1, qP, qK, qD, qM⟩ := q; exact ⟨q0, q1, qP, va_K.moved (u := U) (U := U.calling g mk a) (Vm.Alike.refl U.vm) qK, qD, amb_same (U := U) (U' := U.calling g mk a) rfl rfl qM⟩, va_recv hKc hPc (ci := 2) (q0 := 0) rfl rfl, fun U hU hW => ⟨rfl, by rw [hU], by rw [hU]; exact hPc, va_K.moved hW.alike hKc, hDc.weaken (fun _ _ _ _ => trivial), amb_pass hM hS hFc hW hU⟩⟩ rfl rfl hl.1 rfl (lv_room (Nat.le_of_ble_eq_true rfl)) dX3_rest_7 ⟨Nat.le_of_ble_eq_true rfl, Nat.le_of_ble_eq_true rfl⟩) hS (fun q _ h => hFc q h) hFc (fun q _ h => hFc q h) (fun E9 ce9 q9 u9 t9 H1 locs ht hvm hw hB hz1 hk1 hS hce hcv hcl => ?_) (fun u9 t9 H1 locs ht hvm hw hB hz1 hk1 hS => ?_)
  · obtain ⟨hxp, hP1, hD1⟩ := hB
    rw [ht] at hP1
    obtain ⟨hP, hD⟩ := va_join (wr := []) (w1 := [(xo, .inr (2, [.int (nI k), .ref ra, .ref rb, .int (nI rs), .ref sm, .ref hh, .ref ps, .ref pb]))]) hP hD [0] [] rfl rfl (by decide) (by decide) hk1 hFc hP1 hD1
    have hP9 : va_P (dC, dI) vwCl [(xo, .inr (2, [.int (nI k), .ref ra, .ref rb, .int (nI rs), .ref sm, .ref hh, .ref ps, .ref pb]))] H1 := hP.sub [0] rfl
    have hD9 : va_D A [(xo, .inr (2, [.int (nI k), .ref ra, .ref rb, .int (nI rs), .ref sm, .ref hh, .ref ps, .ref pb]))] := hD.sub [0] (by decide) rfl
    exact vx_out (E := E9) (fun x h => (htab x h).elim) hlocks hce hcv hcl (fun t ht9 hal => ⟨(), trivial, ⟨hxp, by rw [ht9]; exact hP9, hD9⟩, hS.F ht9⟩) hS.2.2 (Nat.le_of_ble_eq_true rfl) (Nat.le_of_ble_eq_true rfl)
  exact hw.elim

abbrev q_X3_keep_ok (dC : Nat → ClassId) (dI : Nat → Nat → Nat) (xo ra rb sm hh ps pb k rs : Nat) (cI cO : ClassId) (so r0 r1 r2 : Nat) (g : Nat → Option Nat) (R0 R1 R2 : Nat → Int32) (fA : Nat → Int32) (A : Nat → Prop) : Array Value → State → Outcome → State → Prop := va_Qv (fun (u : Unit) => True) (fun u t => va_P (dC, dI) vwCl [(xo, .inr (2, [.int (nI k), .ref ra, .ref rb, .int (nI rs), .ref sm, .ref hh, .ref ps, .ref pb])), (sm, .inr (1, [.ref so])), (so, .inl (cO, 3, .inr (.inr (.inr (.inr g))))), (r0, .inl (cI, 511, .inl R0)), (r1, .inl (cI, 511, .inl R1)), (r2, .inl (cI, 511, .inl R2)), (ra, .inl (cI, 256, .inl (ctI fA R0 R1 R2 (2 ^ k))))] t.heap ∧ va_D A [(xo, .inr (2, [.int (nI k), .ref ra, .ref rb, .int (nI rs), .ref sm, .ref hh, .ref ps, .ref pb])), (sm, .inr (1, [.ref so])), (so, .inl (cO, 3, .inr (.inr (.inr (.inr g))))), (r0, .inl (cI, 511, .inl R0)), (r1, .inl (cI, 511, .inl R1)), (r2, .inl (cI, 511, .inl R2)), (ra, .inl (cI, 256, .inl (ctI fA R0 R1 R2 (2 ^ k))))]) A
set_option maxHeartbeats 4000000 in
set_option maxRecDepth 100000 in
theorem c_X3_keep_ok (l : Launch) (dC : Nat → ClassId) (dI : Nat → Nat → Nat) (xo ra rb sm hh ps pb k rs : Nat) (cI cO : ClassId) (so r0 r1 r2 : Nat) (g : Nat → Option Nat) (R0 R1 R2 : Nat → Int32) (fA : Nat → Int32) (sz : Nat) (zk1 : 1 ≤ k) (zk : k ≤ 8) (hg0 : g 0 = some r0) (hg1 : g 1 = some r1) (hg2 : g 2 = some r2) (zrs : 1 ≤ rs) (zrs2 : rs ≤ 511) : Met l yX3_keep wsX3_keep ({ frames := 4, cells := 0, slots := 0, locals := 97 }) (va_Pc [.ref xo] (fun U => U.heap.size = sz ∧ va_P (dC, dI) vwCl [(xo, .inr (2, [.int (nI k), .ref ra, .ref rb, .int (nI rs), .ref sm, .ref hh, .ref ps, .ref pb])), (sm, .inr (1, [.ref so])), (so, .inl (cO, 3, .inr (.inr (.inr (.inr g))))), (r0, .inl (cI, 511, .inl R0)), (r1, .inl (cI, 511, .inl R1)), (r2, .inl (cI, 511, .inl R2)), (ra, .inl (cI, 256, .inl fA))] U.heap ∧ va_K (dC, dI) vwCl [(cI, .int), (cO, .array .int)] U ∧ va_D (fun _ => True) [(xo, .inr (2, [.int (nI k), .ref ra, .ref rb, .int (nI rs), .ref sm, .ref hh, .ref ps, .ref pb])), (sm, .inr (1, [.ref so])), (so, .inl (cO, 3, .inr (.inr (.inr (.inr g))))), (r0, .inl (cI, 511, .inl R0)), (r1, .inl (cI, 511, .inl R1)), (r2, .inl (cI, 511, .inl R2)), (ra, .inl (cI, 256, .inl fA))])) (q_X3_keep_ok dC dI xo ra rb sm hh ps pb k rs cI cO so r0 r1 r2 g R0 R1 R2 fA (va_A [(xo, .inr (2, [.int (nI k), .ref ra, .ref rb, .int (nI rs), .ref sm, .ref hh, .ref ps, .ref pb])), (sm, .inr (1, [.ref so])), (so, .inl (cO, 3, .inr (.inr (.inr (.inr g))))), (r0, .inl (cI, 511, .inl R0)), (r1, .inl (cI, 511, .inl R1)), (r2, .inl (cI, 511, .inl R2)), (ra, .inl (cI, 256, .inl fA))] sz)) 0 0 (va_A [(xo, .inr (2, [.int (nI k), .ref ra, .ref rb, .int (nI rs), .ref sm, .ref hh, .ref ps, .ref pb])), (sm, .inr (1, [.ref so])), (so, .inl (cO, 3, .inr (.inr (.inr (.inr g))))), (r0, .inl (cI, 511, .inl R0)), (r1, .inl (cI, 511, .inl R1)), (r2, .inl (cI, 511, .inl R2)), (ra, .inl (cI, 256, .inl fA))] sz) := by
  refine Met.ofW (cc := cX3_keep) (maxL := 1) (ret := none) (by decide) rfl ?_
  intro p e s m args below meth c s₁ B hml hv
  obtain ⟨rfl, hsz, hP, hK, hD0⟩ := hv
  have hx := B.exec
  have hb := B.bytes
  have hr := B.returns
  have hts := atoms_spec (ws := wsX3_keep) B.pre
  have hown : s.vm.findClass RX3 = some m.cls := findClass_of_methodNamed B.named
  have hlocks := B.notSynchronized
  subst hsz
  have hD := hD0.self (sz := s.heap.size)
  generalize hAe : va_A [(xo, .inr (2, [.int (nI k), .ref ra, .ref rb, .int (nI rs), .ref sm, .ref hh, .ref ps, .ref pb])), (sm, .inr (1, [.ref so])), (so, .inl (cO, 3, .inr (.inr (.inr (.inr g))))), (r0, .inl (cI, 511, .inl R0)), (r1, .inl (cI, 511, .inl R1)), (r2, .inl (cI, 511, .inl R2)), (ra, .inl (cI, 256, .inl fA))] s.heap.size = A at hD ⊢
  have hA : ∀ q : Nat, s.heap.size ≤ q → A q := fun q h => by rw [← hAe]; exact Or.inr h
  have hS : va_S A s.heap s.heap [] := va_S.rf
  have hP : va_P (dC, dI) vwCl [(xo, .inr (2, [.int (nI k), .ref ra, .ref rb, .int (nI rs), .ref sm, .ref hh, .ref ps, .ref pb])), (sm, .inr (1, [.ref so])), (so, .inl (cO, 3, .inr (.inr (.inr (.inr g))))), (r0, .inl (cI, 511, .inl R0)), (r1, .inl (cI, 511, .inl R1)), (r2, .inl (cI, 511, .inl R2)), (ra, .inl (cI, 256, .inl fA))] s.heap := hP
  have hl := lv_entry (([.ref xo] : List Value)) (n := 1) (Nat.le_of_ble_eq_true rfl)
  rw [lg_entry_eq]
  generalize (lg_sl (([.ref xo] : List Value)) ++ List.replicate (1 - (lg_sl (([.ref xo] : List Value))).length) Slot.unset).toArray = ls at hl ⊢
  have hl : lv_has ls 1 [(0, .ref xo)] := hl
  obtain ⟨H, hHe⟩ : ∃ H : Heap, H = s.heap := ⟨_, rfl⟩
  rw [← hHe] at hP
  have hS : va_S A s.heap H [] := by rw [hHe]; exact hS
  obtain ⟨locs, hlo⟩ : ∃ L : List Loc, L = [] := ⟨_, rfl⟩
  rw [← hlo] at hS ⊢
  rw [← hHe]
  have hpk := pw8 zk
  refine lv_aload_n hx hb dX3_keep_0 rfl (lv_at hl 0 rfl) ?_
  refine va_get (D := (dC, dI)) (ci := 2) (v := .int (nI rs)) (C := RX3) (T := TX3) (N := 8) hx hb hts (by decide +kernel) hown hK hP 0 rfl rfl 3 (by decide) (hts (.fieldLink RX3 20 "ThreePrimes" "results" "I") (by decide +kernel)) (fun _ h9 => h9) rfl dX3_keep_1 ?_
  refine lv_if_ne (tgt := 17) hx hb dX3_keep_4 (by decide) (fun c_1 => ?_) (fun c_1 => ?_)
  · have c_1 : ¬ (rs = 0) := fun zq9 => c_1 ((nI_eq (a := rs) (b := 0) (by omega) (by omega)).mpr zq9)
    refine lv_aload_n hx hb dX3_keep_17 rfl (lv_at hl 0 rfl) ?_
    refine va_get (D := (dC, dI)) (ci := 2) (v := .ref sm) (C := RX3) (T := TX3) (N := 8) hx hb hts (by decide +kernel) hown hK hP 0 rfl rfl 4 (by decide) (hts (.fieldLink RX3 28 "ThreePrimes" "sums" "LThreePrimes$Sums;") (by decide +kernel)) (fun _ h9 => h9) rfl dX3_keep_18 ?_
    refine lv_aload_n hx hb dX3_keep_21 rfl (lv_at hl 0 rfl) ?_
    refine va_get (D := (dC, dI)) (ci := 2) (v := .ref ra) (C := RX3) (T := TX3) (N := 8) hx hb hts (by decide +kernel) hown hK hP 0 rfl rfl 1 (by decide) (hts (.fieldLink RX3 13 "ThreePrimes" "rowA" "[I") (by decide +kernel)) (fun _ h9 => h9) rfl dX3_keep_22 ?_
    refine lv_aload_n hx hb dX3_keep_25 rfl (lv_at hl 0 rfl) ?_
    have hPc := hP.sub (ws' := [(xo, .inr (2, [.int (nI k), .ref ra, .ref rb, .int (nI rs), .ref sm, .ref hh, .ref ps, .ref pb]))]) [0] rfl
    have hDc := hD.sub (ws' := [(xo, .inr (2, [.int (nI k), .ref ra, .ref rb, .int (nI rs), .ref sm, .ref hh, .ref ps, .ref pb]))]) [0] (by decide) rfl
    have hKc := hK.sub (tys' := []) [] rfl
    have hFc := va_free (wc := [(xo, .inr (2, [.int (nI k), .ref ra, .ref rb, .int (nI rs), .ref sm, .ref hh, .ref ps, .ref pb]))]) hD hS hA [0] rfl
    refine va_calli (va_runV (As := []) (rest := [.ref ra, .ref sm]) ⟨hx, hb, hml, hown, hts⟩ (c_X3_places l dC dI xo ra rb sm hh ps pb k rs H.size (by omega) (by omega)) (cwV 0 hts gX3_keep_X3_places rfl rfl rfl (by decide +kernel) ⟨Nat.le_of_ble_eq_true rfl, Nat.le_of_ble_eq_true rfl⟩) ⟨fun a U g mk q => by obtain ⟨q0, q1, qP, qK, qD⟩ := q; exact ⟨q0, q1, qP, va_K.moved (u := U) (U := U.calling g mk a) (Vm.Alike.refl U.vm) qK, qD⟩, va_recv hKc hPc (ci := 2) (q0 := 0) rfl rfl, fun U hU hW => ⟨rfl, by rw [hU], by rw [hU]; exact hPc, va_K.moved hW.alike hKc, hDc.weaken (fun _ _ _ _ => trivial)⟩⟩ rfl rfl hl.1 rfl (lv_room (Nat.le_of_ble_eq_true rfl)) dX3_keep_26 ⟨Nat.le_of_ble_eq_true rfl, Nat.le_of_ble_eq_true rfl⟩) hS (fun q _ h => hFc q h) hFc (fun r9 u9 t9 H1 locs ht hvm hw hB hz1 hk1 hS => ?_)
    obtain ⟨hP1, hD1⟩ := hB
    rw [ht] at hP1
    try dsimp only at hw
    obtain ⟨hP, hD⟩ := va_join (wr := [(sm, .inr (1, [.ref so])), (so, .inl (cO, 3, .inr (.inr (.inr (.inr g))))), (r0, .inl (cI, 511, .inl R0)), (r1, .inl (cI, 511, .inl R1)), (r2, .inl (cI, 511, .inl R2)), (ra, .inl (cI, 256, .inl fA))]) (w1 := [(xo, .inr (2, [.int (nI k), .ref ra, .ref rb, .int (nI rs), .ref sm, .ref hh, .ref ps, .ref pb]))]) hP hD [0] [1, 2, 3, 4, 5, 6] rfl rfl (by decide) (by decide) hk1 hFc hP1 hD1
    generalize H1 = H at hP hS ⊢
    have hP : va_P (dC, dI) vwCl [(sm, .inr (1, [.ref so])), (so, .inl (cO, 3, .inr (.inr (.inr (.inr g))))), (r0, .inl (cI, 511, .inl R0)), (r1, .inl (cI, 511, .inl R1)), (r2, .inl (cI, 511, .inl R2)), (ra, .inl (cI, 256, .inl fA)), (xo, .inr (2, [.int (nI k), .ref ra, .ref rb, .int (nI rs), .ref sm, .ref hh, .ref ps, .ref pb]))] H := hP
    have hD : va_D A [(sm, .inr (1, [.ref so])), (so, .inl (cO, 3, .inr (.inr (.inr (.inr g))))), (r0, .inl (cI, 511, .inl R0)), (r1, .inl (cI, 511, .inl R1)), (r2, .inl (cI, 511, .inl R2)), (ra, .inl (cI, 256, .inl fA)), (xo, .inr (2, [.int (nI k), .ref ra, .ref rb, .int (nI rs), .ref sm, .ref hh, .ref ps, .ref pb]))] := hD
    clear hPc hDc hKc hFc hP1 hD1 hk1 hz1 hvm ht
    subst hw
    have hPc := hP.sub (ws' := [(sm, .inr (1, [.ref so])), (so, .inl (cO, 3, .inr (.inr (.inr (.inr g))))), (r0, .inl (cI, 511, .inl R0)), (r1, .inl (cI, 511, .inl R1)), (r2, .inl (cI, 511, .inl R2)), (ra, .inl (cI, 256, .inl fA))]) [0, 1, 2, 3, 4, 5] rfl
    have hDc := hD.sub (ws' := [(sm, .inr (1, [.ref so])), (so, .inl (cO, 3, .inr (.inr (.inr (.inr g))))), (r0, .inl (cI, 511, .inl R0)), (r1, .inl (cI, 511, .inl R1)), (r2, .inl (cI, 511, .inl R2)), (ra, .inl (cI, 256, .inl fA))]) [0, 1, 2, 3, 4, 5] (by decide) rfl
    have hKc := hK.sub (tys' := [(cI, .int), (cO, .array .int)]) [0, 1] rfl
    have hFc := va_free (wc := [(sm, .inr (1, [.ref so])), (so, .inl (cO, 3, .inr (.inr (.inr (.inr g))))), (r0, .inl (cI, 511, .inl R0)), (r1, .inl (cI, 511, .inl R1)), (r2, .inl (cI, 511, .inl R2)), (ra, .inl (cI, 256, .inl fA))]) hD hS hA [0, 1, 2, 3, 4, 5] rfl
    refine va_callv (va_runV (As := [.ref ra, .int (nI (2 ^ k))]) (rest := []) ⟨hx, hb, hml, hown, hts⟩ (c_X2_cutInto l dC dI cI cO sm so r0 r1 r2 ra g R0 R1 R2 fA 511 (2 ^ k) H.size hg0 hg1 hg2 (by omega) (by omega) (by omega)) (cwV 2 hts gX3_keep_X2_cutInto rfl rfl rfl (by decide +kernel) ⟨Nat.le_of_ble_eq_true rfl, Nat.le_of_ble_eq_true rfl⟩) ⟨fun a U g mk q => by obtain ⟨q0, q1, qP, qK, qD⟩ := q; exact ⟨q0, q1, qP, va_K.moved (u := U) (U := U.calling g mk a) (Vm.Alike.refl U.vm) qK, qD⟩, va_recv hKc hPc (ci := 1) (q0 := 0) rfl rfl, fun U hU hW => ⟨rfl, by rw [hU], by rw [hU]; exact hPc, va_K.moved hW.alike hKc, hDc.weaken (fun _ _ _ _ => trivial)⟩⟩ rfl rfl hl.1 rfl (lv_room (Nat.le_of_ble_eq_true rfl)) dX3_keep_29 ⟨Nat.le_of_ble_eq_true rfl, Nat.le_of_ble_eq_true rfl⟩) hS (fun q _ h => hFc q h) hFc (fun u9 t9 H1 locs ht hvm hw hB hz1 hk1 hS => ?_)
    obtain ⟨hP1, hD1⟩ := hB
    rw [ht] at hP1
    try dsimp only at hw
    obtain ⟨hP, hD⟩ := va_join (wr := [(xo, .inr (2, [.int (nI k), .ref ra, .ref rb, .int (nI rs), .ref sm, .ref hh, .ref ps, .ref pb]))]) (w1 := [(sm, .inr (1, [.ref so])), (so, .inl (cO, 3, .inr (.inr (.inr (.inr g))))), (r0, .inl (cI, 511, .inl R0)), (r1, .inl (cI, 511, .inl R1)), (r2, .inl (cI, 511, .inl R2)), (ra, .inl (cI, 256, .inl (ctI fA R0 R1 R2 (2 ^ k))))]) hP hD [0, 1, 2, 3, 4, 5] [6] rfl rfl (by decide) (by decide) hk1 hFc hP1 hD1
    generalize H1 = H at hP hS ⊢
    have hP : va_P (dC, dI) vwCl [(xo, .inr (2, [.int (nI k), .ref ra, .ref rb, .int (nI rs), .ref sm, .ref hh, .ref ps, .ref pb])), (sm, .inr (1, [.ref so])), (so, .inl (cO, 3, .inr (.inr (.inr (.inr g))))), (r0, .inl (cI, 511, .inl R0)), (r1, .inl (cI, 511, .inl R1)), (r2, .inl (cI, 511, .inl R2)), (ra, .inl (cI, 256, .inl (ctI fA R0 R1 R2 (2 ^ k))))] H := hP
    have hD : va_D A [(xo, .inr (2, [.int (nI k), .ref ra, .ref rb, .int (nI rs), .ref sm, .ref hh, .ref ps, .ref pb])), (sm, .inr (1, [.ref so])), (so, .inl (cO, 3, .inr (.inr (.inr (.inr g))))), (r0, .inl (cI, 511, .inl R0)), (r1, .inl (cI, 511, .inl R1)), (r2, .inl (cI, 511, .inl R2)), (ra, .inl (cI, 256, .inl (ctI fA R0 R1 R2 (2 ^ k))))] := hD
    clear hPc hDc hKc hFc hP1 hD1 hk1 hz1 hvm ht
    clear hw
    have hP9 : va_P (dC, dI) vwCl [(xo, .inr (2, [.int (nI k), .ref ra, .ref rb, .int (nI rs), .ref sm, .ref hh, .ref ps, .ref pb])), (sm, .inr (1, [.ref so])), (so, .inl (cO, 3, .inr (.inr (.inr (.inr g))))), (r0, .inl (cI, 511, .inl R0)), (r1, .inl (cI, 511, .inl R1)), (r2, .inl (cI, 511, .inl R2)), (ra, .inl (cI, 256, .inl (ctI fA R0 R1 R2 (2 ^ k))))] H := hP.sub [0, 1, 2, 3, 4, 5, 6] rfl
    have hD9 : va_D A [(xo, .inr (2, [.int (nI k), .ref ra, .ref rb, .int (nI rs), .ref sm, .ref hh, .ref ps, .ref pb])), (sm, .inr (1, [.ref so])), (so, .inl (cO, 3, .inr (.inr (.inr (.inr g))))), (r0, .inl (cI, 511, .inl R0)), (r1, .inl (cI, 511, .inl R1)), (r2, .inl (cI, 511, .inl R2)), (ra, .inl (cI, 256, .inl (ctI fA R0 R1 R2 (2 ^ k))))] := hD.sub [0, 1, 2, 3, 4, 5, 6] (by decide) rfl
    exact W.vret hx hb hr (fun t ht hW => ⟨⟨(), rfl, trivial, by rw [ht]; exact hP9, hD9⟩, hS.F ht⟩) hS.2.2 dX3_keep_32
  · have c_1 : rs = 0 := (nI_eq (a := rs) (b := 0) (by omega) (by omega)).mp c_1
    omega
