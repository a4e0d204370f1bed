section ZA
variable {p : Program} {l : Launch} {e : Env} {R : Room} {s : State} {m : MethodId} {args : Array Value} {below : List Frame} {meth : Method} {c : Code} {H : Heap} {locs : List Loc} {cells slots : Nat} {Q : State → Prop}
variable {cc : ByteArray} {pc : Nat} {ls : Array Slot} {rest : List Value} {D : va_G} {cl : List vw_C} {A : Nat → Prop} {a : Nat} {tys : List (ClassId × FieldType)} {ws : va_W} {H0 : Heap}
theorem zz_aldA (hexec : p.tables.exec = Jvm.exec) (hb : c.code = cc) (hK : va_K D cl tys s) (hP : va_P D cl ws H) (q0 t0 : Nat) {cA : ClassId} {ty : FieldType} {n : Nat} {f : Nat → Option Nat} (ha : ws[q0]? = some (a, .inl (cA, n, .inr (.inr (.inr (.inr f)))))) (ht : tys[t0]? = some (cA, .array ty)) {i : Int32} (hin : vp_in i n) (hdg : decode cc pc = .ok (.aaload, 1))
    (kk : W p l e R s m args below meth c H locs cells slots Q (F0 m (pc + 1) ls (va_rf (f i.toNatClampNeg) :: rest))) : W p l e R s m args below meth c H locs cells slots Q (F0 m pc ls (.int i :: .ref a :: rest)) := by
  have hlt : i.toNatClampNeg < n := Nat.not_le.mp fun q => hin (Or.inr q)
  exact W.aald (v := va_rf (f i.toNatClampNeg)) (ty := .array ty) hexec hb (hP q0 _ ha) ((hK.2 t0 _ ht).1 n (fun j => va_rf (f j))) rfl (fun q => by cases q) (by show ¬ (i < 0 ∨ (arrV _ _ _).slots.size ≤ _); rw [arrV_size]; exact hin) (by show (arrV _ _ _).slots[_]? = _; rw [arrV_read _ _ hlt]) rfl rfl hdg kk
end ZA
theorem lI_shr32 {z : Int} (h1 : -2 ^ 63 ≤ z) (h2 : z < 2 ^ 63) : lI z >>> ((nI 32).toInt64 &&& 63) = lI (z / 2 ^ 32) := by
  rw [← lI_of (lI z >>> ((nI 32).toInt64 &&& 63)), Jvm.Kit.i64_shr (lI z) ((nI 32).toInt64 &&& 63) (k := 32) (by decide +kernel), lI_toInt h1 h2]
def frW (k P : Nat) : Int := 3 ^ ((P - 1) / 2 ^ k) % (P : Int)
/-- what foldRoundModulo leaves in left; G: what lay in rootPowers before -/
def frm (F1 F2 G : Nat → Int) (k P : Nat) : Nat → Int :=
  mlW (bwd (mlF (fwd F1 (rpw G (frW k P) P (2 ^ k / 2)) k P k) (fwd F2 (rpw G (frW k P) P (2 ^ k / 2)) k P k) P (2 ^ k)) (rpw (rpw G (frW k P) P (2 ^ k / 2)) (frW k P ^ (P - 2) % (P : Int)) P (2 ^ k / 2)) k P k) ((2 ^ k : Int) ^ (P - 2) % (P : Int)) P (2 ^ k)
theorem mlW_rng {F : Nat → Int} {w P : Int} {n N : Nat} (hP : 0 < P) (hF : inR F N P) : inR (mlW F w P n) N P := fun j hj => by
  unfold mlW
  split
  · exact emod_rng _ hP
  · exact hF j hj
theorem frm_rng {F1 F2 G : Nat → Int} {k P N : Nat} (hP : 0 < (P : Int)) (h1 : inR F1 N P) : inR (frm F1 F2 G k P) N P := mlW_rng hP (bwd_rng hP (mlF_rng hP (fwd_rng hP h1 _)) _)
/-- the part below the first two primes, the times of their product -/
def mft (a b : Int) : Int := a + 998244353 * (((b - a) * 47450712) % 167772161)
def tft (r z : Int) : Int := if 234881024 < ((r - z).tmod 469762049 * 115990628) % 469762049 then ((r - z).tmod 469762049 * 115990628) % 469762049 - 469762049 else ((r - z).tmod 469762049 * 115990628) % 469762049
def lowZ (a b r : Int) : Int := mft a b + 167477612308856833 * tft r (mft a b)
def highZ (a b r : Int) : Int := (38993920 * tft r (mft a b) + (mft a b + 1166016513 * tft r (mft a b)) / 2 ^ 32) / 2 ^ 32
theorem i32b (x : Int32) : -2 ^ 31 ≤ x.toInt ∧ x.toInt < 2 ^ 31 := ⟨Int32.le_toInt x, Int32.toInt_lt x⟩
theorem mft_b (a b : Int32) : -2 ^ 31 ≤ mft a.toInt b.toInt ∧ mft a.toInt b.toInt < 2 ^ 58 := by
  have h1 := i32b a
  have h2 := emod_rng ((b.toInt - a.toInt) * 47450712) (show (0 : Int) < 167772161 by omega)
  unfold mft
  omega
theorem tft_b (r z : Int) : -469762049 ≤ tft r z ∧ tft r z < 469762049 := by
  have h2 := emod_rng ((r - z).tmod 469762049 * 115990628) (show (0 : Int) < 469762049 by omega)
  unfold tft
  split <;> omega
def ctI (f : Nat → Int32) (R0 R1 R2 : Nat → Int32) (t : Nat) : Nat → Int32 := fun j => if j < t then iI (lowZ (R0 j).toInt (R1 j).toInt (R2 j).toInt) else f j
theorem ctI_0 (f R0 R1 R2 : Nat → Int32) : ctI f R0 R1 R2 0 = f := by
  funext j
  unfold ctI
  rw [if_neg (by omega)]
theorem ctI_s {f R0 R1 R2 : Nat → Int32} {t : Nat} : upd (ctI f R0 R1 R2 t) t (iI (lowZ (R0 t).toInt (R1 t).toInt (R2 t).toInt)) = ctI f R0 R1 R2 (t + 1) := by
  funext j
  unfold upd ctI
  by_cases h : j = t
  · subst h
    simp
  · by_cases h2 : j < t
    · simp [h, h2, Nat.lt_succ_of_lt h2]
    · simp [h, h2, show ¬ j < t + 1 by omega]
abbrev q_X0_foldRoundModulo (dC : Nat → ClassId) (dI : Nat → Nat → Nat) (cJ : ClassId) (hh lf rt rp : Nat) (F1 F2 G : Nat → Int) (k P : Nat) (A : Nat → Prop) : Array Value → State → Outcome → State → Prop := va_Qv (fun (u : (Nat → Int) × (Nat → Int)) => True) (fun u t => va_P (dC, dI) vwCl [(hh, .inr (0, [.ref lf, .ref rt, .ref rp])), (lf, .inl (cJ, 512, .inr (.inl (fun j => lI ((frm F1 F2 G k P) j))))), (rt, .inl (cJ, 512, .inr (.inl (fun j => lI (u.1 j))))), (rp, .inl (cJ, 256, .inr (.inl (fun j => lI (u.2 j)))))] t.heap ∧ va_D A [(hh, .inr (0, [.ref lf, .ref rt, .ref rp])), (lf, .inl (cJ, 512, .inr (.inl (fun j => lI ((frm F1 F2 G k P) j))))), (rt, .inl (cJ, 512, .inr (.inl (fun j => lI (u.1 j))))), (rp, .inl (cJ, 256, .inr (.inl (fun j => lI (u.2 j)))))]) A
set_option maxHeartbeats 4000000 in
set_option maxRecDepth 100000 in
theorem c_X0_foldRoundModulo (l : Launch) (dC : Nat → ClassId) (dI : Nat → Nat → Nat) (cJ : ClassId) (hh lf rt rp : Nat) (F1 F2 G : Nat → Int) (k P : Nat) (sz : Nat) (zF1 : inR F1 (2 ^ k) P) (zF2 : inR F2 (2 ^ k) P) (zk : k ≤ 9) (zk1 : 1 ≤ k) (zP : 512 < P) (hp2 : P ≤ 2 ^ 30) : Met l yX0_foldRoundModulo wsX0_foldRoundModulo ({ frames := 3, cells := 0, slots := 0, locals := 77 }) (va_Pc [.ref hh, .int (nI k), .int (nI P)] (fun U => U.heap.size = sz ∧ va_P (dC, dI) vwCl [(hh, .inr (0, [.ref lf, .ref rt, .ref rp])), (lf, .inl (cJ, 512, .inr (.inl (fun j => lI (F1 j))))), (rt, .inl (cJ, 512, .inr (.inl (fun j => lI (F2 j))))), (rp, .inl (cJ, 256, .inr (.inl (fun j => lI (G j)))))] U.heap ∧ va_K (dC, dI) vwCl [(cJ, .long)] U ∧ va_D (fun _ => True) [(hh, .inr (0, [.ref lf, .ref rt, .ref rp])), (lf, .inl (cJ, 512, .inr (.inl (fun j => lI (F1 j))))), (rt, .inl (cJ, 512, .inr (.inl (fun j => lI (F2 j))))), (rp, .inl (cJ, 256, .inr (.inl (fun j => lI (G j)))))])) (q_X0_foldRoundModulo dC dI cJ hh lf rt rp F1 F2 G k P (va_A [(hh, .inr (0, [.ref lf, .ref rt, .ref rp])), (lf, .inl (cJ, 512, .inr (.inl (fun j => lI (F1 j))))), (rt, .inl (cJ, 512, .inr (.inl (fun j => lI (F2 j))))), (rp, .inl (cJ, 256, .inr (.inl (fun j => lI (G j)))))] sz)) 0 0 (va_A [(hh, .inr (0, [.ref lf, .ref rt, .ref rp])), (lf, .inl (cJ, 512, .inr (.inl (fun j => lI (F1 j))))), (rt, .inl (cJ, 512, .inr (.inl (fun j => lI (F2 j))))), (rp, .inl (cJ, 256, .inr (.inl (fun j => lI (G j)))))] sz) := by
  refine Met.ofW (cc := cX0_foldRoundModulo) (maxL := 7) (ret := none) (by decide) rfl ?_
  intro p e s m args below meth c s₁ B hml hv
  obtain ⟨rfl, hsz, hP, hK, hD0⟩ := hv
  have hx := B.exec
  have hb := B.bytes
  have hr := B.returns
  have hts := atoms_spec (ws := wsX0_foldRoundModulo) B.pre
  have hown : s.vm.findClass RX0 = some m.cls := findClass_of_methodNamed B.named
  have hlocks := B.notSynchronized
  subst hsz
  have hD := hD0.self (sz := s.heap.size)
  generalize hAe : va_A [(hh, .inr (0, [.ref lf, .ref rt, .ref rp])), (lf, .inl (cJ, 512, .inr (.inl (fun j => lI (F1 j))))), (rt, .inl (cJ, 512, .inr (.inl (fun j => lI (F2 j))))), (rp, .inl (cJ, 256, .inr (.inl (fun j => lI (G j)))))] s.heap.size = A at hD ⊢
  have hA : ∀ q : Nat, s.heap.size ≤ q → A q := fun q h => by rw [← hAe]; exact Or.inr h
  have hS : va_S A s.heap s.heap [] := va_S.rf
  have hP : va_P (dC, dI) vwCl [(hh, .inr (0, [.ref lf, .ref rt, .ref rp])), (lf, .inl (cJ, 512, .inr (.inl (fun j => lI (F1 j))))), (rt, .inl (cJ, 512, .inr (.inl (fun j => lI (F2 j))))), (rp, .inl (cJ, 256, .inr (.inl (fun j => lI (G j)))))] s.heap := hP
  have hl := lv_entry (([.ref hh, .int (nI k), .int (nI P)] : List Value)) (n := 7) (Nat.le_of_ble_eq_true rfl)
  rw [lg_entry_eq]
  generalize (lg_sl (([.ref hh, .int (nI k), .int (nI P)] : List Value)) ++ List.replicate (7 - (lg_sl (([.ref hh, .int (nI k), .int (nI P)] : List Value))).length) Slot.unset).toArray = ls at hl ⊢
  have hl : lv_has ls 7 [(0, .ref hh), (1, .int (nI k)), (2, .int (nI P))] := hl
  obtain ⟨H, hHe⟩ : ∃ H : Heap, H = s.heap := ⟨_, rfl⟩
  rw [← hHe] at hP
  have hS : va_S A s.heap H [] := by rw [hHe]; exact hS
  obtain ⟨locs, hlo⟩ : ∃ L : List Loc, L = [] := ⟨_, rfl⟩
  rw [← hlo] at hS ⊢
  rw [← hHe]
  have hpk := pw9 zk
  have hpk2 : 2 ≤ 2 ^ k := by obtain ⟨k, rfl⟩ : ∃ j, k = j + 1 := ⟨k - 1, by omega⟩; have := pw9 (show k ≤ 9 by omega); rw [Nat.pow_succ]; omega
  have hw := emod_rng (3 ^ ((P - 1) / 2 ^ k)) (show (0 : Int) < P by omega)
  have hwf : 3 ^ ((P - 1) / 2 ^ k) % (P : Int) = frW k P := rfl
  rw [hwf] at hw
  have hw2 := emod_rng (frW k P ^ (P - 2)) (show (0 : Int) < P by omega)
  refine lv_iconst (v := nI 1) hx hb dX0_foldRoundModulo_0 (by decide) ?_
  refine lv_iload_n hx hb dX0_foldRoundModulo_1 rfl (lv_at hl 1 rfl) ?_
  refine lv_ishl hx hb dX0_foldRoundModulo_2 ?_
  refine W.eq (congrArg (fun z => F0 m _ ls (.int z :: _)) (show (nI 1) <<< ((nI k) &&& 31) = nI (2 ^ k) from zz_shl (by omega))) ?_
  refine lv_istore_n (lv' := [(3, .int (nI (2 ^ k))), (0, .ref hh), (1, .int (nI k)), (2, .int (nI P))]) hx hb dX0_foldRoundModulo_3 rfl hl (by decide) rfl (fun ls hl => ?_)
  refine lv_iload_n hx hb dX0_foldRoundModulo_4 rfl (lv_at hl 2 rfl) ?_
  refine lv_iload_n hx hb dX0_foldRoundModulo_5 rfl (lv_at hl 3 rfl) ?_
  have hPc := hP.sub (ws' := []) [] rfl
  have hDc := hD.sub (ws' := []) [] (by decide) rfl
  have hKc := hK.sub (tys' := []) [] rfl
  have hFc := va_free (wc := []) hD hS hA [] rfl
  refine va_calll (va_runS (As := [.int (nI k), .int (nI P)]) (rest := []) ⟨hx, hb, hml, hown, hts⟩ (c_X1_rootOfOne l dC dI k P H.size (by omega) (by omega) (by omega)) (va_cwS 2 hts gX0_foldRoundModulo_X1_rootOfOne rfl rfl rfl (by decide +kernel) ⟨Nat.le_of_ble_eq_true rfl, Nat.le_of_ble_eq_true rfl⟩) ⟨fun a U g mk q => by obtain ⟨q0, q1, qP, qK, qD⟩ := q; exact ⟨q0, q1, qP, va_K.moved (u := U) (U := U.calling g mk a) (Vm.Alike.refl U.vm) qK, qD⟩, fun U hU hW => ⟨rfl, by rw [hU], by rw [hU]; exact hPc, va_K.moved hW.alike hKc, hDc.weaken (fun _ _ _ _ => trivial)⟩⟩ rfl rfl hl.1 rfl (lv_room (Nat.le_of_ble_eq_true rfl)) dX0_foldRoundModulo_6 ⟨Nat.le_of_ble_eq_true rfl, Nat.le_of_ble_eq_true rfl⟩) hS (fun q _ h => hFc q h) hFc (fun r9 u9 t9 H1 locs ht hvm hw hB hz1 hk1 hS => ?_)
  obtain ⟨hP1, hD1⟩ := hB
  rw [ht] at hP1
  try dsimp only at hw
  obtain ⟨hP, hD⟩ := va_join (wr := [(hh, .inr (0, [.ref lf, .ref rt, .ref rp])), (lf, .inl (cJ, 512, .inr (.inl (fun j => lI (F1 j))))), (rt, .inl (cJ, 512, .inr (.inl (fun j => lI (F2 j))))), (rp, .inl (cJ, 256, .inr (.inl (fun j => lI (G j)))))]) (w1 := []) hP hD [] [0, 1, 2, 3] rfl rfl (by decide) (by decide) hk1 hFc hP1 hD1
  generalize H1 = H at hP hS ⊢
  have hP : va_P (dC, dI) vwCl [(hh, .inr (0, [.ref lf, .ref rt, .ref rp])), (lf, .inl (cJ, 512, .inr (.inl (fun j => lI (F1 j))))), (rt, .inl (cJ, 512, .inr (.inl (fun j => lI (F2 j))))), (rp, .inl (cJ, 256, .inr (.inl (fun j => lI (G j)))))] H := hP
  have hD : va_D A [(hh, .inr (0, [.ref lf, .ref rt, .ref rp])), (lf, .inl (cJ, 512, .inr (.inl (fun j => lI (F1 j))))), (rt, .inl (cJ, 512, .inr (.inl (fun j => lI (F2 j))))), (rp, .inl (cJ, 256, .inr (.inl (fun j => lI (G j)))))] := hD
  clear hPc hDc hKc hFc hP1 hD1 hk1 hz1 hvm ht
  subst hw
  refine W.eq (congrArg (fun z => F0 m _ ls (.long z :: _)) (show lI (3 ^ ((P - 1) / 2 ^ k) % ((P : Nat) : Int)) = lI (frW k P) from rfl)) ?_
  refine lv_lstore (lv' := [(4, .long (lI (frW k P))), (3, .int (nI (2 ^ k))), (0, .ref hh), (1, .int (nI k)), (2, .int (nI P))]) hx hb dX0_foldRoundModulo_9 hl (by decide) rfl (fun ls hl => ?_)
  refine lv_aload_n hx hb dX0_foldRoundModulo_11 rfl (lv_at hl 2 rfl) ?_
  refine lv_lload hx hb dX0_foldRoundModulo_12 (lv_at hl 0 rfl) ?_
  refine lv_iload_n hx hb dX0_foldRoundModulo_14 rfl (lv_at hl 1 rfl) ?_
  refine lv_iconst (v := nI 2) hx hb dX0_foldRoundModulo_15 (by decide) ?_
  refine lv_idiv hx hb dX0_foldRoundModulo_16 (nI_ne0 (by omega) (by omega)) ?_
  refine W.eq (congrArg (fun z => F0 m _ ls (.int z :: _)) (show nI (2 ^ k) / nI 2 = nI ((2 ^ k) / 2) from pk_div (by omega) (by omega) (by omega))) ?_
  refine lv_iload_n hx hb dX0_foldRoundModulo_17 rfl (lv_at hl 4 rfl) ?_
  have hPc := hP.sub (ws' := [(hh, .inr (0, [.ref lf, .ref rt, .ref rp])), (rp, .inl (cJ, 256, .inr (.inl (fun j => lI (G j)))))]) [0, 3] rfl
  have hDc := hD.sub (ws' := [(hh, .inr (0, [.ref lf, .ref rt, .ref rp])), (rp, .inl (cJ, 256, .inr (.inl (fun j => lI (G j)))))]) [0, 3] (by decide) rfl
  have hKc := hK.sub (tys' := [(cJ, .long)]) [0] rfl
  have hFc := va_free (wc := [(hh, .inr (0, [.ref lf, .ref rt, .ref rp])), (rp, .inl (cJ, 256, .inr (.inl (fun j => lI (G j)))))]) hD hS hA [0, 3] rfl
  refine va_callv (va_runV (As := [.long (lI (frW k P)), .int (nI ((2 ^ k) / 2)), .int (nI P)]) (rest := []) ⟨hx, hb, hml, hown, hts⟩ (c_X0_listRootPowers l dC dI cJ hh lf rt rp G (frW k P) ((2 ^ k) / 2) P H.size (by omega) (by omega) (by omega) (by omega) (by omega) (by omega)) (cwV 3 hts gX0_foldRoundModulo_X0_listRootPowers rfl rfl rfl (by decide +kernel) ⟨Nat.le_of_ble_eq_true rfl, Nat.le_of_ble_eq_true rfl⟩) ⟨fun a U g mk q => by obtain ⟨q0, q1, qP, qK, qD⟩ := q; exact ⟨q0, q1, qP, va_K.moved (u := U) (U := U.calling g mk a) (Vm.Alike.refl U.vm) qK, qD⟩, va_recv hKc hPc (ci := 0) (q0 := 0) rfl rfl, fun U hU hW => ⟨rfl, by rw [hU], by rw [hU]; exact hPc, va_K.moved hW.alike hKc, hDc.weaken (fun _ _ _ _ => trivial)⟩⟩ rfl rfl hl.1 rfl (lv_room (Nat.le_of_ble_eq_true rfl)) dX0_foldRoundModulo_18 ⟨Nat.le_of_ble_eq_true rfl, Nat.le_of_ble_eq_true rfl⟩) hS (fun q _ h => hFc q h) hFc (fun u9 t9 H1 locs ht hvm hw hB hz1 hk1 hS => ?_)
  obtain ⟨hP1, hD1⟩ := hB
  rw [ht] at hP1
  try dsimp only at hw
  obtain ⟨hP, hD⟩ := va_join (wr := [(lf, .inl (cJ, 512, .inr (.inl (fun j => lI (F1 j))))), (rt, .inl (cJ, 512, .inr (.inl (fun j => lI (F2 j)))))]) (w1 := [(hh, .inr (0, [.ref lf, .ref rt, .ref rp])), (rp, .inl (cJ, 256, .inr (.inl (fun j => lI ((rpw G (frW k P) P ((2 ^ k) / 2)) j)))))]) hP hD [0, 3] [1, 2] rfl rfl (by decide) (by decide) hk1 hFc hP1 hD1
  generalize H1 = H at hP hS ⊢
  have hP : va_P (dC, dI) vwCl [(lf, .inl (cJ, 512, .inr (.inl (fun j => lI (F1 j))))), (rt, .inl (cJ, 512, .inr (.inl (fun j => lI (F2 j))))), (hh, .inr (0, [.ref lf, .ref rt, .ref rp])), (rp, .inl (cJ, 256, .inr (.inl (fun j => lI ((rpw G (frW k P) P ((2 ^ k) / 2)) j)))))] H := hP
  have hD : va_D A [(lf, .inl (cJ, 512, .inr (.inl (fun j => lI (F1 j))))), (rt, .inl (cJ, 512, .inr (.inl (fun j => lI (F2 j))))), (hh, .inr (0, [.ref lf, .ref rt, .ref rp])), (rp, .inl (cJ, 256, .inr (.inl (fun j => lI ((rpw G (frW k P) P ((2 ^ k) / 2)) j)))))] := hD
  clear hPc hDc hKc hFc hP1 hD1 hk1 hz1 hvm ht
  clear hw
  refine lv_aload_n hx hb dX0_foldRoundModulo_21 rfl (lv_at hl 2 rfl) ?_
  refine lv_aload_n hx hb dX0_foldRoundModulo_22 rfl (lv_at hl 2 rfl) ?_
  refine va_get (D := (dC, dI)) (ci := 0) (v := .ref lf) (C := RX0) (T := TX0) (N := 3) hx hb hts (by decide +kernel) hown hK hP 2 rfl rfl 0 (by decide) (hts (.fieldLink RX0 9 "ThreePrimes$Folder" "left" "[J") (by decide +kernel)) (fun _ h9 => h9) rfl dX0_foldRoundModulo_23 ?_
  refine lv_iload_n hx hb dX0_foldRoundModulo_26 rfl (lv_at hl 3 rfl) ?_
  refine lv_iload_n hx hb dX0_foldRoundModulo_27 rfl (lv_at hl 4 rfl) ?_
  have hPc := hP.sub (ws' := [(hh, .inr (0, [.ref lf, .ref rt, .ref rp])), (lf, .inl (cJ, 512, .inr (.inl (fun j => lI (F1 j))))), (rp, .inl (cJ, 256, .inr (.inl (fun j => lI ((rpw G (frW k P) P ((2 ^ k) / 2)) j)))))]) [2, 0, 3] rfl
  have hDc := hD.sub (ws' := [(hh, .inr (0, [.ref lf, .ref rt, .ref rp])), (lf, .inl (cJ, 512, .inr (.inl (fun j => lI (F1 j))))), (rp, .inl (cJ, 256, .inr (.inl (fun j => lI ((rpw G (frW k P) P ((2 ^ k) / 2)) j)))))]) [2, 0, 3] (by decide) rfl
  have hKc := hK.sub (tys' := [(cJ, .long)]) [0] rfl
  have hFc := va_free (wc := [(hh, .inr (0, [.ref lf, .ref rt, .ref rp])), (lf, .inl (cJ, 512, .inr (.inl (fun j => lI (F1 j))))), (rp, .inl (cJ, 256, .inr (.inl (fun j => lI ((rpw G (frW k P) P ((2 ^ k) / 2)) j)))))]) hD hS hA [2, 0, 3] rfl
  refine va_callv (va_runV (As := [.ref lf, .int (nI k), .int (nI P)]) (rest := []) ⟨hx, hb, hml, hown, hts⟩ (c_X0_turnIntoValues l dC dI cJ hh lf rt rp lf F1 (rpw G (frW k P) P ((2 ^ k) / 2)) k P H.size zF1 (rpw_rng (by omega) (Nat.le_refl _)) zk (by omega) (by omega)) (cwV 3 hts gX0_foldRoundModulo_X0_turnIntoValues rfl rfl rfl (by decide +kernel) ⟨Nat.le_of_ble_eq_true rfl, Nat.le_of_ble_eq_true rfl⟩) ⟨fun a U g mk q => by obtain ⟨q0, q1, qP, qK, qD⟩ := q; exact ⟨q0, q1, qP, va_K.moved (u := U) (U := U.calling g mk a) (Vm.Alike.refl U.vm) qK, qD⟩, va_recv hKc hPc (ci := 0) (q0 := 0) rfl rfl, fun U hU hW => ⟨rfl, by rw [hU], by rw [hU]; exact hPc, va_K.moved hW.alike hKc, hDc.weaken (fun _ _ _ _ => trivial)⟩⟩ rfl rfl hl.1 rfl (lv_room (Nat.le_of_ble_eq_true rfl)) dX0_foldRoundModulo_28 ⟨Nat.le_of_ble_eq_true rfl, Nat.le_of_ble_eq_true rfl⟩) hS (fun q _ h => hFc q h) hFc (fun u9 t9 H1 locs ht hvm hw hB hz1 hk1 hS => ?_)
  obtain ⟨hP1, hD1⟩ := hB
  rw [ht] at hP1
  try dsimp only at hw
  obtain ⟨hP, hD⟩ := va_join (wr := [(rt, .inl (cJ, 512, .inr (.inl (fun j => lI (F2 j)))))]) (w1 := [(hh, .inr (0, [.ref lf, .ref rt, .ref rp])), (lf, .inl (cJ, 512, .inr (.inl (fun j => lI ((fwd F1 (rpw G (frW k P) P ((2 ^ k) / 2)) k P k) j))))), (rp, .inl (cJ, 256, .inr (.inl (fun j => lI ((rpw G (frW k P) P ((2 ^ k) / 2)) j)))))]) hP hD [2, 0, 3] [1] rfl rfl (by decide) (by decide) hk1 hFc hP1 hD1
  generalize H1 = H at hP hS ⊢
  have hP : va_P (dC, dI) vwCl [(rt, .inl (cJ, 512, .inr (.inl (fun j => lI (F2 j))))), (hh, .inr (0, [.ref lf, .ref rt, .ref rp])), (lf, .inl (cJ, 512, .inr (.inl (fun j => lI ((fwd F1 (rpw G (frW k P) P ((2 ^ k) / 2)) k P k) j))))), (rp, .inl (cJ, 256, .inr (.inl (fun j => lI ((rpw G (frW k P) P ((2 ^ k) / 2)) j)))))] H := hP
  have hD : va_D A [(rt, .inl (cJ, 512, .inr (.inl (fun j => lI (F2 j))))), (hh, .inr (0, [.ref lf, .ref rt, .ref rp])), (lf, .inl (cJ, 512, .inr (.inl (fun j => lI ((fwd F1 (rpw G (frW k P) P ((2 ^ k) / 2)) k P k) j))))), (rp, .inl (cJ, 256, .inr (.inl (fun j => lI ((rpw G (frW k P) P ((2 ^ k) / 2)) j)))))] := hD
  clear hPc hDc hKc hFc hP1 hD1 hk1 hz1 hvm ht
  clear hw
  refine lv_aload_n hx hb dX0_foldRoundModulo_31 rfl (lv_at hl 2 rfl) ?_
  refine lv_aload_n hx hb dX0_foldRoundModulo_32 rfl (lv_at hl 2 rfl) ?_
  refine va_get (D := (dC, dI)) (ci := 0) (v := .ref rt) (C := RX0) (T := TX0) (N := 3) hx hb hts (by decide +kernel) hown hK hP 1 rfl rfl 1 (by decide) (hts (.fieldLink RX0 15 "ThreePrimes$Folder" "right" "[J") (by decide +kernel)) (fun _ h9 => h9) rfl dX0_foldRoundModulo_33 ?_
  refine lv_iload_n hx hb dX0_foldRoundModulo_36 rfl (lv_at hl 3 rfl) ?_
  refine lv_iload_n hx hb dX0_foldRoundModulo_37 rfl (lv_at hl 4 rfl) ?_
  have hPc := hP.sub (ws' := [(hh, .inr (0, [.ref lf, .ref rt, .ref rp])), (rt, .inl (cJ, 512, .inr (.inl (fun j => lI (F2 j))))), (rp, .inl (cJ, 256, .inr (.inl (fun j => lI ((rpw G (frW k P) P ((2 ^ k) / 2)) j)))))]) [1, 0, 3] rfl
  have hDc := hD.sub (ws' := [(hh, .inr (0, [.ref lf, .ref rt, .ref rp])), (rt, .inl (cJ, 512, .inr (.inl (fun j => lI (F2 j))))), (rp, .inl (cJ, 256, .inr (.inl (fun j => lI ((rpw G (frW k P) P ((2 ^ k) / 2)) j)))))]) [1, 0, 3] (by decide) rfl
  have hKc := hK.sub (tys' := [(cJ, .long)]) [0] rfl
  have hFc := va_free (wc := [(hh, .inr (0, [.ref lf, .ref rt, .ref rp])), (rt, .inl (cJ, 512, .inr (.inl (fun j => lI (F2 j))))), (rp, .inl (cJ, 256, .inr (.inl (fun j => lI ((rpw G (frW k P) P ((2 ^ k) / 2)) j)))))]) hD hS hA [1, 0, 3] rfl
  refine va_callv (va_runV (As := [.ref rt, .int (nI k), .int (nI P)]) (rest := []) ⟨hx, hb, hml, hown, hts⟩ (c_X0_turnIntoValues l dC dI cJ hh lf rt rp rt F2 (rpw G (frW k P) P ((2 ^ k) / 2)) k P H.size zF2 (rpw_rng (by omega) (Nat.le_refl _)) zk (by omega) (by omega)) (cwV 3 hts gX0_foldRoundModulo_X0_turnIntoValues rfl rfl rfl (by decide +kernel) ⟨Nat.le_of_ble_eq_true rfl, Nat.le_of_ble_eq_true rfl⟩) ⟨fun a U g mk q => by obtain ⟨q0, q1, qP, qK, qD⟩ := q; exact ⟨q0, q1, qP, va_K.moved (u := U) (U := U.calling g mk a) (Vm.Alike.refl U.vm) qK, qD⟩, va_recv hKc hPc (ci := 0) (q0 := 0) rfl rfl, fun U hU hW => ⟨rfl, by rw [hU], by rw [hU]; exact hPc, va_K.moved hW.alike hKc, hDc.weaken (fun _ _ _ _ => trivial)⟩⟩ rfl rfl hl.1 rfl (lv_room (Nat.le_of_ble_eq_true rfl)) dX0_foldRoundModulo_38 ⟨Nat.le_of_ble_eq_true rfl, Nat.le_of_ble_eq_true rfl⟩) hS (fun q _ h => hFc q h) hFc (fun u9 t9 H1 locs ht hvm hw hB hz1 hk1 hS => ?_)
  obtain ⟨hP1, hD1⟩ := hB
  rw [ht] at hP1
  try dsimp only at hw
  obtain ⟨hP, hD⟩ := va_join (wr := [(lf, .inl (cJ, 512, .inr (.inl (fun j => lI ((fwd F1 (rpw G (frW k P) P ((2 ^ k) / 2)) k P k) j)))))]) (w1 := [(hh, .inr (0, [.ref lf, .ref rt, .ref rp])), (rt, .inl (cJ, 512, .inr (.inl (fun j => lI ((fwd F2 (rpw G (frW k P) P ((2 ^ k) / 2)) k P k) j))))), (rp, .inl (cJ, 256, .inr (.inl (fun j => lI ((rpw G (frW k P) P ((2 ^ k) / 2)) j)))))]) hP hD [1, 0, 3] [2] rfl rfl (by decide) (by decide) hk1 hFc hP1 hD1
  generalize H1 = H at hP hS ⊢
  have hP : va_P (dC, dI) vwCl [(lf, .inl (cJ, 512, .inr (.inl (fun j => lI ((fwd F1 (rpw G (frW k P) P ((2 ^ k) / 2)) k P k) j))))), (hh, .inr (0, [.ref lf, .ref rt, .ref rp])), (rt, .inl (cJ, 512, .inr (.inl (fun j => lI ((fwd F2 (rpw G (frW k P) P ((2 ^ k) / 2)) k P k) j))))), (rp, .inl (cJ, 256, .inr (.inl (fun j => lI ((rpw G (frW k P) P ((2 ^ k) / 2)) j)))))] H := hP
  have hD : va_D A [(lf, .inl (cJ, 512, .inr (.inl (fun j => lI ((fwd F1 (rpw G (frW k P) P ((2 ^ k) / 2)) k P k) j))))), (hh, .inr (0, [.ref lf, .ref rt, .ref rp])), (rt, .inl (cJ, 512, .inr (.inl (fun j => lI ((fwd F2 (rpw G (frW k P) P ((2 ^ k) / 2)) k P k) j))))), (rp, .inl (cJ, 256, .inr (.inl (fun j => lI ((rpw G (frW k P) P ((2 ^ k) / 2)) j)))))] := hD
  clear hPc hDc hKc hFc hP1 hD1 hk1 hz1 hvm ht
  clear hw
  refine lv_iconst (v := nI 0) hx hb dX0_foldRoundModulo_41 (by decide) ?_
  rw [show fwd F1 (rpw G (frW k P) P ((2 ^ k) / 2)) k P k = mlF (fwd F1 (rpw G (frW k P) P (2 ^ k / 2)) k P k) (fwd F2 (rpw G (frW k P) P (2 ^ k / 2)) k P k) P 0 from (mlF_0 _ _ _).symm] at hP hD
  have hP : va_P (dC, dI) vwCl [(lf, .inl (cJ, 512, .inr (.inl (fun j => lI ((mlF (fwd F1 (rpw G (frW k P) P (2 ^ k / 2)) k P k) (fwd F2 (rpw G (frW k P) P (2 ^ k / 2)) k P k) P 0) j))))), (hh, .inr (0, [.ref lf, .ref rt, .ref rp])), (rt, .inl (cJ, 512, .inr (.inl (fun j => lI ((fwd F2 (rpw G (frW k P) P ((2 ^ k) / 2)) k P k) j))))), (rp, .inl (cJ, 256, .inr (.inl (fun j => lI ((rpw G (frW k P) P ((2 ^ k) / 2)) j)))))] H := hP
  have hD : va_D A [(lf, .inl (cJ, 512, .inr (.inl (fun j => lI ((mlF (fwd F1 (rpw G (frW k P) P (2 ^ k / 2)) k P k) (fwd F2 (rpw G (frW k P) P (2 ^ k / 2)) k P k) P 0) j))))), (hh, .inr (0, [.ref lf, .ref rt, .ref rp])), (rt, .inl (cJ, 512, .inr (.inl (fun j => lI ((fwd F2 (rpw G (frW k P) P ((2 ^ k) / 2)) k P k) j))))), (rp, .inl (cJ, 256, .inr (.inl (fun j => lI ((rpw G (frW k P) P ((2 ^ k) / 2)) j)))))] := hD
  refine lv_istore (lv' := [(6, .int (nI 0)), (4, .long (lI (frW k P))), (3, .int (nI (2 ^ k))), (0, .ref hh), (1, .int (nI k)), (2, .int (nI P))]) hx hb dX0_foldRoundModulo_42 hl (by decide) rfl (fun ls hl => ?_)
  have key_44 : ∀ (fuel : Nat) (i : Nat), (i ≤ 2 ^ k) → (2 ^ k - i < fuel) → ∀ (H : Heap) (locs : List Loc) (ls : Array Slot), va_P (dC, dI) vwCl [(hh, .inr (0, [.ref lf, .ref rt, .ref rp])), (lf, .inl (cJ, 512, .inr (.inl (fun j => lI ((mlF (fwd F1 (rpw G (frW k P) P (2 ^ k / 2)) k P k) (fwd F2 (rpw G (frW k P) P (2 ^ k / 2)) k P k) P i) j))))), (rt, .inl (cJ, 512, .inr (.inl (fun j => lI ((fwd F2 (rpw G (frW k P) P (2 ^ k / 2)) k P k) j))))), (rp, .inl (cJ, 256, .inr (.inl (fun j => lI ((rpw G (frW k P) P (2 ^ k / 2)) j)))))] H → va_D A [(hh, .inr (0, [.ref lf, .ref rt, .ref rp])), (lf, .inl (cJ, 512, .inr (.inl (fun j => lI ((mlF (fwd F1 (rpw G (frW k P) P (2 ^ k / 2)) k P k) (fwd F2 (rpw G (frW k P) P (2 ^ k / 2)) k P k) P i) j))))), (rt, .inl (cJ, 512, .inr (.inl (fun j => lI ((fwd F2 (rpw G (frW k P) P (2 ^ k / 2)) k P k) j))))), (rp, .inl (cJ, 256, .inr (.inl (fun j => lI ((rpw G (frW k P) P (2 ^ k / 2)) j)))))] → va_S A s.heap H locs → lv_has ls 7 [(6, .int (nI i)), (4, .long (lI (frW k P))), (3, .int (nI (2 ^ k))), (2, .int (nI P)), (1, .int (nI k)), (0, .ref hh)] → W p l e (headSpec wsX0_foldRoundModulo { frames := 3, cells := 0, slots := 0, locals := 77 }).room s m ([.ref hh, .int (nI k), .int (nI P)] : List Value).toArray below meth c H locs 0 0 (MQ below (q_X0_foldRoundModulo dC dI cJ hh lf rt rp F1 F2 G k P  A) ([.ref hh, .int (nI k), .int (nI P)] : List Value).toArray s 0 0 A) (F0 m 44 ls []) := by
    intro fuel
    induction fuel with
    | zero => intro i; intros; omega
    | succ fuel ih_44 =>
      intro i hi hfu H locs ls hP hD hS hl
      refine lv_iload hx hb dX0_foldRoundModulo_44 (lv_at hl 0 rfl) ?_
      refine lv_iload_n hx hb dX0_foldRoundModulo_46 rfl (lv_at hl 2 rfl) ?_
      refine lv_icmp_ge (tgt := 81) hx hb dX0_foldRoundModulo_47 (by decide) (fun c_1 => ?_) (fun c_1 => ?_)
      · have c_1 : 2 ^ k ≤ i := (nI_leI (a := 2 ^ k) (b := i) (by omega) (by omega)).mp c_1
        rw [show mlF (fwd F1 (rpw G (frW k P) P (2 ^ k / 2)) k P k) (fwd F2 (rpw G (frW k P) P (2 ^ k / 2)) k P k) P i = mlF (fwd F1 (rpw G (frW k P) P (2 ^ k / 2)) k P k) (fwd F2 (rpw G (frW k P) P (2 ^ k / 2)) k P k) P (2 ^ k) from by rw [show i = 2 ^ k by omega]] at hP hD
        have hP : va_P (dC, dI) vwCl [(hh, .inr (0, [.ref lf, .ref rt, .ref rp])), (lf, .inl (cJ, 512, .inr (.inl (fun j => lI ((mlF (fwd F1 (rpw G (frW k P) P (2 ^ k / 2)) k P k) (fwd F2 (rpw G (frW k P) P (2 ^ k / 2)) k P k) P (2 ^ k)) j))))), (rt, .inl (cJ, 512, .inr (.inl (fun j => lI ((fwd F2 (rpw G (frW k P) P (2 ^ k / 2)) k P k) j))))), (rp, .inl (cJ, 256, .inr (.inl (fun j => lI ((rpw G (frW k P) P (2 ^ k / 2)) j)))))] H := hP
        have hD : va_D A [(hh, .inr (0, [.ref lf, .ref rt, .ref rp])), (lf, .inl (cJ, 512, .inr (.inl (fun j => lI ((mlF (fwd F1 (rpw G (frW k P) P (2 ^ k / 2)) k P k) (fwd F2 (rpw G (frW k P) P (2 ^ k / 2)) k P k) P (2 ^ k)) j))))), (rt, .inl (cJ, 512, .inr (.inl (fun j => lI ((fwd F2 (rpw G (frW k P) P (2 ^ k / 2)) k P k) j))))), (rp, .inl (cJ, 256, .inr (.inl (fun j => lI ((rpw G (frW k P) P (2 ^ k / 2)) j)))))] := hD
        refine lv_aload_n hx hb dX0_foldRoundModulo_81 rfl (lv_at hl 5 rfl) ?_
        refine lv_lload hx hb dX0_foldRoundModulo_82 (lv_at hl 1 rfl) ?_
        refine lv_iload_n hx hb dX0_foldRoundModulo_84 rfl (lv_at hl 3 rfl) ?_
        have hPc := hP.sub (ws' := []) [] rfl
        have hDc := hD.sub (ws' := []) [] (by decide) rfl
        have hKc := hK.sub (tys' := []) [] rfl
        have hFc := va_free (wc := []) hD hS hA [] rfl
        refine va_calll (va_runS (As := [.long (lI (frW k P)), .int (nI P)]) (rest := [.ref hh]) ⟨hx, hb, hml, hown, hts⟩ (c_X1_inverse l dC dI (frW k P) P H.size (by omega) (by omega) (by omega) (by omega)) (va_cwS 2 hts gX0_foldRoundModulo_X1_inverse rfl rfl rfl (by decide +kernel) ⟨Nat.le_of_ble_eq_true rfl, Nat.le_of_ble_eq_true rfl⟩) ⟨fun a U g mk q => by obtain ⟨q0, q1, qP, qK, qD⟩ := q; exact ⟨q0, q1, qP, va_K.moved (u := U) (U := U.calling g mk a) (Vm.Alike.refl U.vm) qK, qD⟩, fun U hU hW => ⟨rfl, by rw [hU], by rw [hU]; exact hPc, va_K.moved hW.alike hKc, hDc.weaken (fun _ _ _ _ => trivial)⟩⟩ rfl rfl hl.1 rfl (lv_room (Nat.le_of_ble_eq_true rfl)) dX0_foldRoundModulo_85 ⟨Nat.le_of_ble_eq_true rfl, Nat.le_of_ble_eq_true rfl⟩) hS (fun q _ h => hFc q h) hFc (fun r9 u9 t9 H1 locs ht hvm hw hB hz1 hk1 hS => ?_)
        obtain ⟨hP1, hD1⟩ := hB
        rw [ht] at hP1
        try dsimp only at hw
        obtain ⟨hP, hD⟩ := va_join (wr := [(hh, .inr (0, [.ref lf, .ref rt, .ref rp])), (lf, .inl (cJ, 512, .inr (.inl (fun j => lI ((mlF (fwd F1 (rpw G (frW k P) P (2 ^ k / 2)) k P k) (fwd F2 (rpw G (frW k P) P (2 ^ k / 2)) k P k) P (2 ^ k)) j))))), (rt, .inl (cJ, 512, .inr (.inl (fun j => lI ((fwd F2 (rpw G (frW k P) P (2 ^ k / 2)) k P k) j))))), (rp, .inl (cJ, 256, .inr (.inl (fun j => lI ((rpw G (frW k P) P (2 ^ k / 2)) j)))))]) (w1 := []) hP hD [] [0, 1, 2, 3] rfl rfl (by decide) (by decide) hk1 hFc hP1 hD1
        generalize H1 = H at hP hS ⊢
        have hP : va_P (dC, dI) vwCl [(hh, .inr (0, [.ref lf, .ref rt, .ref rp])), (lf, .inl (cJ, 512, .inr (.inl (fun j => lI ((mlF (fwd F1 (rpw G (frW k P) P (2 ^ k / 2)) k P k) (fwd F2 (rpw G (frW k P) P (2 ^ k / 2)) k P k) P (2 ^ k)) j))))), (rt, .inl (cJ, 512, .inr (.inl (fun j => lI ((fwd F2 (rpw G (frW k P) P (2 ^ k / 2)) k P k) j))))), (rp, .inl (cJ, 256, .inr (.inl (fun j => lI ((rpw G (frW k P) P (2 ^ k / 2)) j)))))] H := hP
        have hD : va_D A [(hh, .inr (0, [.ref lf, .ref rt, .ref rp])), (lf, .inl (cJ, 512, .inr (.inl (fun j => lI ((mlF (fwd F1 (rpw G (frW k P) P (2 ^ k / 2)) k P k) (fwd F2 (rpw G (frW k P) P (2 ^ k / 2)) k P k) P (2 ^ k)) j))))), (rt, .inl (cJ, 512, .inr (.inl (fun j => lI ((fwd F2 (rpw G (frW k P) P (2 ^ k / 2)) k P k) j))))), (rp, .inl (cJ, 256, .inr (.inl (fun j => lI ((rpw G (frW k P) P (2 ^ k / 2)) j)))))] := hD
        clear hPc hDc hKc hFc hP1 hD1 hk1 hz1 hvm ht
        subst hw
        refine lv_iload_n hx hb dX0_foldRoundModulo_88 rfl (lv_at hl 2 rfl) ?_
        refine lv_iconst (v := nI 2) hx hb dX0_foldRoundModulo_89 (by decide) ?_
        refine lv_idiv hx hb dX0_foldRoundModulo_90 (nI_ne0 (by omega) (by omega)) ?_
        refine W.eq (congrArg (fun z => F0 m _ ls (.int z :: _)) (show nI (2 ^ k) / nI 2 = nI ((2 ^ k) / 2) from pk_div (by omega) (by omega) (by omega))) ?_
        refine lv_iload_n hx hb dX0_foldRoundModulo_91 rfl (lv_at hl 3 rfl) ?_
        have hPc := hP.sub (ws' := [(hh, .inr (0, [.ref lf, .ref rt, .ref rp])), (rp, .inl (cJ, 256, .inr (.inl (fun j => lI ((rpw G (frW k P) P (2 ^ k / 2)) j)))))]) [0, 3] rfl
        have hDc := hD.sub (ws' := [(hh, .inr (0, [.ref lf, .ref rt, .ref rp])), (rp, .inl (cJ, 256, .inr (.inl (fun j => lI ((rpw G (frW k P) P (2 ^ k / 2)) j)))))]) [0, 3] (by decide) rfl
        have hKc := hK.sub (tys' := [(cJ, .long)]) [0] rfl
        have hFc := va_free (wc := [(hh, .inr (0, [.ref lf, .ref rt, .ref rp])), (rp, .inl (cJ, 256, .inr (.inl (fun j => lI ((rpw G (frW k P) P (2 ^ k / 2)) j)))))]) hD hS hA [0, 3] rfl
        refine va_callv (va_runV (As := [.long (lI ((frW k P) ^ (P - 2) % ((P : Nat) : Int))), .int (nI ((2 ^ k) / 2)), .int (nI P)]) (rest := []) ⟨hx, hb, hml, hown, hts⟩ (c_X0_listRootPowers l dC dI cJ hh lf rt rp (rpw G (frW k P) P (2 ^ k / 2)) ((frW k P) ^ (P - 2) % ((P : Nat) : Int)) ((2 ^ k) / 2) P H.size (by omega) (by omega) (by omega) (by omega) (by omega) (by omega)) (cwV 3 hts gX0_foldRoundModulo_X0_listRootPowers rfl rfl rfl (by decide +kernel) ⟨Nat.le_of_ble_eq_true rfl, Nat.le_of_ble_eq_true rfl⟩) ⟨fun a U g mk q => by obtain ⟨q0, q1, qP, qK, qD⟩ := q; exact ⟨q0, q1, qP, va_K.moved (u := U) (U := U.calling g mk a) (Vm.Alike.refl U.vm) qK, qD⟩, va_recv hKc hPc (ci := 0) (q0 := 0) rfl rfl, fun U hU hW => ⟨rfl, by rw [hU], by rw [hU]; exact hPc, va_K.moved hW.alike hKc, hDc.weaken (fun _ _ _ _ => trivial)⟩⟩ rfl rfl hl.1 rfl (lv_room (Nat.le_of_ble_eq_true rfl)) dX0_foldRoundModulo_92 ⟨Nat.le_of_ble_eq_true rfl, Nat.le_of_ble_eq_true rfl⟩) hS (fun q _ h => hFc q h) hFc (fun u9 t9 H1 locs ht hvm hw hB hz1 hk1 hS => ?_)
        obtain ⟨hP1, hD1⟩ := hB
        rw [ht] at hP1
        try dsimp only at hw
        obtain ⟨hP, hD⟩ := va_join (wr := [(lf, .inl (cJ, 512, .inr (.inl (fun j => lI ((mlF (fwd F1 (rpw G (frW k P) P (2 ^ k / 2)) k P k) (fwd F2 (rpw G (frW k P) P (2 ^ k / 2)) k P k) P (2 ^ k)) j))))), (rt, .inl (cJ, 512, .inr (.inl (fun j => lI ((fwd F2 (rpw G (frW k P) P (2 ^ k / 2)) k P k) j)))))]) (w1 := [(hh, .inr (0, [.ref lf, .ref rt, .ref rp])), (rp, .inl (cJ, 256, .inr (.inl (fun j => lI ((rpw (rpw G (frW k P) P (2 ^ k / 2)) ((frW k P) ^ (P - 2) % ((P : Nat) : Int)) P ((2 ^ k) / 2)) j)))))]) hP hD [0, 3] [1, 2] rfl rfl (by decide) (by decide) hk1 hFc hP1 hD1
        generalize H1 = H at hP hS ⊢
        have hP : va_P (dC, dI) vwCl [(lf, .inl (cJ, 512, .inr (.inl (fun j => lI ((mlF (fwd F1 (rpw G (frW k P) P (2 ^ k / 2)) k P k) (fwd F2 (rpw G (frW k P) P (2 ^ k / 2)) k P k) P (2 ^ k)) j))))), (rt, .inl (cJ, 512, .inr (.inl (fun j => lI ((fwd F2 (rpw G (frW k P) P (2 ^ k / 2)) k P k) j))))), (hh, .inr (0, [.ref lf, .ref rt, .ref rp])), (rp, .inl (cJ, 256, .inr (.inl (fun j => lI ((rpw (rpw G (frW k P) P (2 ^ k / 2)) ((frW k P) ^ (P - 2) % ((P : Nat) : Int)) P ((2 ^ k) / 2)) j)))))] H := hP
        have hD : va_D A [(lf, .inl (cJ, 512, .inr (.inl (fun j => lI ((mlF (fwd F1 (rpw G (frW k P) P (2 ^ k / 2)) k P k) (fwd F2 (rpw G (frW k P) P (2 ^ k / 2)) k P k) P (2 ^ k)) j))))), (rt, .inl (cJ, 512, .inr (.inl (fun j => lI ((fwd F2 (rpw G (frW k P) P (2 ^ k / 2)) k P k) j))))), (hh, .inr (0, [.ref lf, .ref rt, .ref rp])), (rp, .inl (cJ, 256, .inr (.inl (fun j => lI ((rpw (rpw G (frW k P) P (2 ^ k / 2)) ((frW k P) ^ (P - 2) % ((P : Nat) : Int)) P ((2 ^ k) / 2)) j)))))] := hD
        clear hPc hDc hKc hFc hP1 hD1 hk1 hz1 hvm ht
        clear hw
        refine lv_aload_n hx hb dX0_foldRoundModulo_95 rfl (lv_at hl 5 rfl) ?_
        refine lv_aload_n hx hb dX0_foldRoundModulo_96 rfl (lv_at hl 5 rfl) ?_
        refine va_get (D := (dC, dI)) (ci := 0) (v := .ref lf) (C := RX0) (T := TX0) (N := 3) hx hb hts (by decide +kernel) hown hK hP 2 rfl rfl 0 (by decide) (hts (.fieldLink RX0 9 "ThreePrimes$Folder" "left" "[J") (by decide +kernel)) (fun _ h9 => h9) rfl dX0_foldRoundModulo_97 ?_
        refine lv_iload_n hx hb dX0_foldRoundModulo_100 rfl (lv_at hl 4 rfl) ?_
        refine lv_iload_n hx hb dX0_foldRoundModulo_101 rfl (lv_at hl 3 rfl) ?_
        have hPc := hP.sub (ws' := [(hh, .inr (0, [.ref lf, .ref rt, .ref rp])), (lf, .inl (cJ, 512, .inr (.inl (fun j => lI ((mlF (fwd F1 (rpw G (frW k P) P (2 ^ k / 2)) k P k) (fwd F2 (rpw G (frW k P) P (2 ^ k / 2)) k P k) P (2 ^ k)) j))))), (rp, .inl (cJ, 256, .inr (.inl (fun j => lI ((rpw (rpw G (frW k P) P (2 ^ k / 2)) ((frW k P) ^ (P - 2) % ((P : Nat) : Int)) P ((2 ^ k) / 2)) j)))))]) [2, 0, 3] rfl
        have hDc := hD.sub (ws' := [(hh, .inr (0, [.ref lf, .ref rt, .ref rp])), (lf, .inl (cJ, 512, .inr (.inl (fun j => lI ((mlF (fwd F1 (rpw G (frW k P) P (2 ^ k / 2)) k P k) (fwd F2 (rpw G (frW k P) P (2 ^ k / 2)) k P k) P (2 ^ k)) j))))), (rp, .inl (cJ, 256, .inr (.inl (fun j => lI ((rpw (rpw G (frW k P) P (2 ^ k / 2)) ((frW k P) ^ (P - 2) % ((P : Nat) : Int)) P ((2 ^ k) / 2)) j)))))]) [2, 0, 3] (by decide) rfl
        have hKc := hK.sub (tys' := [(cJ, .long)]) [0] rfl
        have hFc := va_free (wc := [(hh, .inr (0, [.ref lf, .ref rt, .ref rp])), (lf, .inl (cJ, 512, .inr (.inl (fun j => lI ((mlF (fwd F1 (rpw G (frW k P) P (2 ^ k / 2)) k P k) (fwd F2 (rpw G (frW k P) P (2 ^ k / 2)) k P k) P (2 ^ k)) j))))), (rp, .inl (cJ, 256, .inr (.inl (fun j => lI ((rpw (rpw G (frW k P) P (2 ^ k / 2)) ((frW k P) ^ (P - 2) % ((P : Nat) : Int)) P ((2 ^ k) / 2)) j)))))]) hD hS hA [2, 0, 3] rfl
        refine va_callv (va_runV (As := [.ref lf, .int (nI k), .int (nI P)]) (rest := []) ⟨hx, hb, hml, hown, hts⟩ (c_X0_turnBack l dC dI cJ hh lf rt rp lf (mlF (fwd F1 (rpw G (frW k P) P (2 ^ k / 2)) k P k) (fwd F2 (rpw G (frW k P) P (2 ^ k / 2)) k P k) P (2 ^ k)) (rpw (rpw G (frW k P) P (2 ^ k / 2)) ((frW k P) ^ (P - 2) % ((P : Nat) : Int)) P ((2 ^ k) / 2)) k P H.size (mlF_rng (by omega) (fwd_rng (by omega) zF1 _)) (rpw_rng (by omega) (Nat.le_refl _)) zk zk1 zP (by omega) (by omega)) (cwV 3 hts gX0_foldRoundModulo_X0_turnBack rfl rfl rfl (by decide +kernel) ⟨Nat.le_of_ble_eq_true rfl, Nat.le_of_ble_eq_true rfl⟩) ⟨fun a U g mk q => by obtain ⟨q0, q1, qP, qK, qD⟩ := q; exact ⟨q0, q1, qP, va_K.moved (u := U) (U := U.calling g mk a) (Vm.Alike.refl U.vm) qK, qD⟩, va_recv hKc hPc (ci := 0) (q0 := 0) rfl rfl, fun U hU hW => ⟨rfl, by rw [hU], by rw [hU]; exact hPc, va_K.moved hW.alike hKc, hDc.weaken (fun _ _ _ _ => trivial)⟩⟩ rfl rfl hl.1 rfl (lv_room (Nat.le_of_ble_eq_true rfl)) dX0_foldRoundModulo_102 ⟨Nat.le_of_ble_eq_true rfl, Nat.le_of_ble_eq_true rfl⟩) hS (fun q _ h => hFc q h) hFc (fun u9 t9 H1 locs ht hvm hw hB hz1 hk1 hS => ?_)
        obtain ⟨hP1, hD1⟩ := hB
        rw [ht] at hP1
        try dsimp only at hw
        obtain ⟨hP, hD⟩ := va_join (wr := [(rt, .inl (cJ, 512, .inr (.inl (fun j => lI ((fwd F2 (rpw G (frW k P) P (2 ^ k / 2)) k P k) j)))))]) (w1 := [(hh, .inr (0, [.ref lf, .ref rt, .ref rp])), (lf, .inl (cJ, 512, .inr (.inl (fun j => lI ((mlW (bwd (mlF (fwd F1 (rpw G (frW k P) P (2 ^ k / 2)) k P k) (fwd F2 (rpw G (frW k P) P (2 ^ k / 2)) k P k) P (2 ^ k)) (rpw (rpw G (frW k P) P (2 ^ k / 2)) ((frW k P) ^ (P - 2) % ((P : Nat) : Int)) P ((2 ^ k) / 2)) k P k) ((2 ^ k : Int) ^ (P - 2) % (P : Int)) P (2 ^ k)) j))))), (rp, .inl (cJ, 256, .inr (.inl (fun j => lI ((rpw (rpw G (frW k P) P (2 ^ k / 2)) ((frW k P) ^ (P - 2) % ((P : Nat) : Int)) P ((2 ^ k) / 2)) j)))))]) hP hD [2, 0, 3] [1] rfl rfl (by decide) (by decide) hk1 hFc hP1 hD1
        generalize H1 = H at hP hS ⊢
        have hP : va_P (dC, dI) vwCl [(rt, .inl (cJ, 512, .inr (.inl (fun j => lI ((fwd F2 (rpw G (frW k P) P (2 ^ k / 2)) k P k) j))))), (hh, .inr (0, [.ref lf, .ref rt, .ref rp])), (lf, .inl (cJ, 512, .inr (.inl (fun j => lI ((mlW (bwd (mlF (fwd F1 (rpw G (frW k P) P (2 ^ k / 2)) k P k) (fwd F2 (rpw G (frW k P) P (2 ^ k / 2)) k P k) P (2 ^ k)) (rpw (rpw G (frW k P) P (2 ^ k / 2)) ((frW k P) ^ (P - 2) % ((P : Nat) : Int)) P ((2 ^ k) / 2)) k P k) ((2 ^ k : Int) ^ (P - 2) % (P : Int)) P (2 ^ k)) j))))), (rp, .inl (cJ, 256, .inr (.inl (fun j => lI ((rpw (rpw G (frW k P) P (2 ^ k / 2)) ((frW k P) ^ (P - 2) % ((P : Nat) : Int)) P ((2 ^ k) / 2)) j)))))] H := hP
        have hD : va_D A [(rt, .inl (cJ, 512, .inr (.inl (fun j => lI ((fwd F2 (rpw G (frW k P) P (2 ^ k / 2)) k P k) j))))), (hh, .inr (0, [.ref lf, .ref rt, .ref rp])), (lf, .inl (cJ, 512, .inr (.inl (fun j => lI ((mlW (bwd (mlF (fwd F1 (rpw G (frW k P) P (2 ^ k / 2)) k P k) (fwd F2 (rpw G (frW k P) P (2 ^ k / 2)) k P k) P (2 ^ k)) (rpw (rpw G (frW k P) P (2 ^ k / 2)) ((frW k P) ^ (P - 2) % ((P : Nat) : Int)) P ((2 ^ k) / 2)) k P k) ((2 ^ k : Int) ^ (P - 2) % (P : Int)) P (2 ^ k)) j))))), (rp, .inl (cJ, 256, .inr (.inl (fun j => lI ((rpw (rpw G (frW k P) P (2 ^ k / 2)) ((frW k P) ^ (P - 2) % ((P : Nat) : Int)) P ((2 ^ k) / 2)) j)))))] := hD
        clear hPc hDc hKc hFc hP1 hD1 hk1 hz1 hvm ht
        clear hw
        have hP : va_P (dC, dI) vwCl [(hh, .inr (0, [.ref lf, .ref rt, .ref rp])), (lf, .inl (cJ, 512, .inr (.inl (fun j => lI ((frm F1 F2 G k P) j))))), (rt, .inl (cJ, 512, .inr (.inl (fun j => lI ((fwd F2 (rpw G (frW k P) P (2 ^ k / 2)) k P k) j))))), (rp, .inl (cJ, 256, .inr (.inl (fun j => lI ((rpw (rpw G (frW k P) P (2 ^ k / 2)) (frW k P ^ (P - 2) % (P : Int)) P (2 ^ k / 2)) j)))))] H := hP.sub [1, 2, 0, 3] rfl
        have hD : va_D A [(hh, .inr (0, [.ref lf, .ref rt, .ref rp])), (lf, .inl (cJ, 512, .inr (.inl (fun j => lI ((frm F1 F2 G k P) j))))), (rt, .inl (cJ, 512, .inr (.inl (fun j => lI ((fwd F2 (rpw G (frW k P) P (2 ^ k / 2)) k P k) j))))), (rp, .inl (cJ, 256, .inr (.inl (fun j => lI ((rpw (rpw G (frW k P) P (2 ^ k / 2)) (frW k P ^ (P - 2) % (P : Int)) P (2 ^ k / 2)) j)))))] := hD.sub [1, 2, 0, 3] (by decide) rfl
        have hP9 : va_P (dC, dI) vwCl [(hh, .inr (0, [.ref lf, .ref rt, .ref rp])), (lf, .inl (cJ, 512, .inr (.inl (fun j => lI ((frm F1 F2 G k P) j))))), (rt, .inl (cJ, 512, .inr (.inl (fun j => lI ((fwd F2 (rpw G (frW k P) P (2 ^ k / 2)) k P k) j))))), (rp, .inl (cJ, 256, .inr (.inl (fun j => lI ((rpw (rpw G (frW k P) P (2 ^ k / 2)) (frW k P ^ (P - 2) % (P : Int)) P (2 ^ k / 2)) j)))))] H := hP.sub [0, 1, 2, 3] rfl
        have hD9 : va_D A [(hh, .inr (0, [.ref lf, .ref rt, .ref rp])), (lf, .inl (cJ, 512, .inr (.inl (fun j => lI ((frm F1 F2 G k P) j))))), (rt, .inl (cJ, 512, .inr (.inl (fun j => lI ((fwd F2 (rpw G (frW k P) P (2 ^ k / 2)) k P k) j))))), (rp, .inl (cJ, 256, .inr (.inl (fun j => lI ((rpw (rpw G (frW k P) P (2 ^ k / 2)) (frW k P ^ (P - 2) % (P : Int)) P (2 ^ k / 2)) j)))))] := hD.sub [0, 1, 2, 3] (by decide) rfl
        exact W.vret hx hb hr (fun t ht hW => ⟨⟨(fwd F2 (rpw G (frW k P) P (2 ^ k / 2)) k P k, rpw (rpw G (frW k P) P (2 ^ k / 2)) (frW k P ^ (P - 2) % (P : Int)) P (2 ^ k / 2)), rfl, trivial, by rw [ht]; exact hP9, hD9⟩, hS.F ht⟩) hS.2.2 dX0_foldRoundModulo_105
      · have c_1 : ¬ (2 ^ k ≤ i) := fun zq9 => c_1 ((nI_leI (a := 2 ^ k) (b := i) (by omega) (by omega)).mpr zq9)
        have f1 := fwd_rng (G := rpw G (frW k P) P (2 ^ k / 2)) (k := k) (show (0 : Int) < P by omega) zF1 k i (by omega)
        have f2 := fwd_rng (G := rpw G (frW k P) P (2 ^ k / 2)) (k := k) (show (0 : Int) < P by omega) zF2 k i (by omega)
        have b1 := mul_b30 f1.1 f1.2 f2.1 f2.2 (by omega)
        refine lv_aload_n hx hb dX0_foldRoundModulo_50 rfl (lv_at hl 5 rfl) ?_
        refine va_get (D := (dC, dI)) (ci := 0) (v := .ref lf) (C := RX0) (T := TX0) (N := 3) hx hb hts (by decide +kernel) hown hK hP 0 rfl rfl 0 (by decide) (hts (.fieldLink RX0 9 "ThreePrimes$Folder" "left" "[J") (by decide +kernel)) (fun _ h9 => h9) rfl dX0_foldRoundModulo_51 ?_
        refine lv_iload hx hb dX0_foldRoundModulo_54 (lv_at hl 0 rfl) ?_
        refine lv_aload_n hx hb dX0_foldRoundModulo_56 rfl (lv_at hl 5 rfl) ?_
        refine va_get (D := (dC, dI)) (ci := 0) (v := .ref lf) (C := RX0) (T := TX0) (N := 3) hx hb hts (by decide +kernel) hown hK hP 0 rfl rfl 0 (by decide) (hts (.fieldLink RX0 9 "ThreePrimes$Folder" "left" "[J") (by decide +kernel)) (fun _ h9 => h9) rfl dX0_foldRoundModulo_57 ?_
        refine lv_iload hx hb dX0_foldRoundModulo_60 (lv_at hl 0 rfl) ?_
        refine va_lald hx hb hK hP 1 0 rfl rfl (vp_in_nI (by omega) (by omega)) dX0_foldRoundModulo_62 ?_
        refine W.eq (g2 := F0 m _ ls [.long (lI ((mlF (fwd F1 (rpw G (frW k P) P (2 ^ k / 2)) k P k) (fwd F2 (rpw G (frW k P) P (2 ^ k / 2)) k P k) P i) i)), .int (nI i), .ref lf]) (by rw [nI_clamp (by omega)]) ?_
        refine W.eq (congrArg (fun z => F0 m _ ls (.long z :: _)) (show lI ((mlF (fwd F1 (rpw G (frW k P) P (2 ^ k / 2)) k P k) (fwd F2 (rpw G (frW k P) P (2 ^ k / 2)) k P k) P i) i) = lI ((fwd F1 (rpw G (frW k P) P (2 ^ k / 2)) k P k) i) from congrArg lI mlF_i)) ?_
        refine lv_aload_n hx hb dX0_foldRoundModulo_63 rfl (lv_at hl 5 rfl) ?_
        refine va_get (D := (dC, dI)) (ci := 0) (v := .ref rt) (C := RX0) (T := TX0) (N := 3) hx hb hts (by decide +kernel) hown hK hP 0 rfl rfl 1 (by decide) (hts (.fieldLink RX0 15 "ThreePrimes$Folder" "right" "[J") (by decide +kernel)) (fun _ h9 => h9) rfl dX0_foldRoundModulo_64 ?_
        refine lv_iload hx hb dX0_foldRoundModulo_67 (lv_at hl 0 rfl) ?_
        refine va_lald hx hb hK hP 2 0 rfl rfl (vp_in_nI (by omega) (by omega)) dX0_foldRoundModulo_69 ?_
        refine W.eq (g2 := F0 m _ ls [.long (lI ((fwd F2 (rpw G (frW k P) P (2 ^ k / 2)) k P k) i)), .long (lI ((fwd F1 (rpw G (frW k P) P (2 ^ k / 2)) k P k) i)), .int (nI i), .ref lf]) (by rw [nI_clamp (by omega)]) ?_
        refine lv_lmul hx hb dX0_foldRoundModulo_70 ?_
        refine W.eq (congrArg (fun z => F0 m _ ls (.long z :: _)) (show lI ((fwd F1 (rpw G (frW k P) P (2 ^ k / 2)) k P k) i) * lI ((fwd F2 (rpw G (frW k P) P (2 ^ k / 2)) k P k) i) = lI (((fwd F1 (rpw G (frW k P) P (2 ^ k / 2)) k P k) i) * ((fwd F2 (rpw G (frW k P) P (2 ^ k / 2)) k P k) i)) from lI_mul ((fwd F1 (rpw G (frW k P) P (2 ^ k / 2)) k P k) i) ((fwd F2 (rpw G (frW k P) P (2 ^ k / 2)) k P k) i))) ?_
        refine lv_iload_n hx hb dX0_foldRoundModulo_71 rfl (lv_at hl 3 rfl) ?_
        refine lv_i2l (v := lI ((P : Nat) : Int)) hx hb dX0_foldRoundModulo_72 (nI_lI (by omega)) ?_
        refine lv_lrem hx hb dX0_foldRoundModulo_73 (fun zq9 => absurd ((lI_eq (b := 0) (by omega) (by omega) (by omega) (by omega)).mp zq9) (by omega)) ?_
        refine W.eq (congrArg (fun z => F0 m _ ls (.long z :: _)) (show lI (((fwd F1 (rpw G (frW k P) P (2 ^ k / 2)) k P k) i) * ((fwd F2 (rpw G (frW k P) P (2 ^ k / 2)) k P k) i)) - lI (((fwd F1 (rpw G (frW k P) P (2 ^ k / 2)) k P k) i) * ((fwd F2 (rpw G (frW k P) P (2 ^ k / 2)) k P k) i)) / lI ((P : Nat) : Int) * lI ((P : Nat) : Int) = lI ((((fwd F1 (rpw G (frW k P) P (2 ^ k / 2)) k P k) i) * ((fwd F2 (rpw G (frW k P) P (2 ^ k / 2)) k P k) i)) % ((P : Nat) : Int)) from lI_rem0 (by omega) (by omega) (by omega) (by omega))) ?_
        refine va_last hx hb hK hP hD hS 1 0 rfl rfl (vp_in_nI (by omega) (by omega)) dX0_foldRoundModulo_74 (fun H locs hP hD hS => ?_)
        rw [nI_clamp (show i < 2 ^ 31 by omega)] at hP hD
        rw [upI_l] at hP hD
        have hP : va_P (dC, dI) vwCl [(hh, .inr (0, [.ref lf, .ref rt, .ref rp])), (lf, .inl (cJ, 512, .inr (.inl (fun j => lI ((upI (mlF (fwd F1 (rpw G (frW k P) P (2 ^ k / 2)) k P k) (fwd F2 (rpw G (frW k P) P (2 ^ k / 2)) k P k) P i) i ((((fwd F1 (rpw G (frW k P) P (2 ^ k / 2)) k P k) i) * ((fwd F2 (rpw G (frW k P) P (2 ^ k / 2)) k P k) i)) % ((P : Nat) : Int))) j))))), (rt, .inl (cJ, 512, .inr (.inl (fun j => lI ((fwd F2 (rpw G (frW k P) P (2 ^ k / 2)) k P k) j))))), (rp, .inl (cJ, 256, .inr (.inl (fun j => lI ((rpw G (frW k P) P (2 ^ k / 2)) j)))))] H := hP
        have hD : va_D A [(hh, .inr (0, [.ref lf, .ref rt, .ref rp])), (lf, .inl (cJ, 512, .inr (.inl (fun j => lI ((upI (mlF (fwd F1 (rpw G (frW k P) P (2 ^ k / 2)) k P k) (fwd F2 (rpw G (frW k P) P (2 ^ k / 2)) k P k) P i) i ((((fwd F1 (rpw G (frW k P) P (2 ^ k / 2)) k P k) i) * ((fwd F2 (rpw G (frW k P) P (2 ^ k / 2)) k P k) i)) % ((P : Nat) : Int))) j))))), (rt, .inl (cJ, 512, .inr (.inl (fun j => lI ((fwd F2 (rpw G (frW k P) P (2 ^ k / 2)) k P k) j))))), (rp, .inl (cJ, 256, .inr (.inl (fun j => lI ((rpw G (frW k P) P (2 ^ k / 2)) j)))))] := hD
        rw [show upI (mlF (fwd F1 (rpw G (frW k P) P (2 ^ k / 2)) k P k) (fwd F2 (rpw G (frW k P) P (2 ^ k / 2)) k P k) P i) i ((((fwd F1 (rpw G (frW k P) P (2 ^ k / 2)) k P k) i) * ((fwd F2 (rpw G (frW k P) P (2 ^ k / 2)) k P k) i)) % ((P : Nat) : Int)) = mlF (fwd F1 (rpw G (frW k P) P (2 ^ k / 2)) k P k) (fwd F2 (rpw G (frW k P) P (2 ^ k / 2)) k P k) P (i + 1) from mlF_s] at hP hD
        have hP : va_P (dC, dI) vwCl [(hh, .inr (0, [.ref lf, .ref rt, .ref rp])), (lf, .inl (cJ, 512, .inr (.inl (fun j => lI ((mlF (fwd F1 (rpw G (frW k P) P (2 ^ k / 2)) k P k) (fwd F2 (rpw G (frW k P) P (2 ^ k / 2)) k P k) P (i + 1)) j))))), (rt, .inl (cJ, 512, .inr (.inl (fun j => lI ((fwd F2 (rpw G (frW k P) P (2 ^ k / 2)) k P k) j))))), (rp, .inl (cJ, 256, .inr (.inl (fun j => lI ((rpw G (frW k P) P (2 ^ k / 2)) j)))))] H := hP
        have hD : va_D A [(hh, .inr (0, [.ref lf, .ref rt, .ref rp])), (lf, .inl (cJ, 512, .inr (.inl (fun j => lI ((mlF (fwd F1 (rpw G (frW k P) P (2 ^ k / 2)) k P k) (fwd F2 (rpw G (frW k P) P (2 ^ k / 2)) k P k) P (i + 1)) j))))), (rt, .inl (cJ, 512, .inr (.inl (fun j => lI ((fwd F2 (rpw G (frW k P) P (2 ^ k / 2)) k P k) j))))), (rp, .inl (cJ, 256, .inr (.inl (fun j => lI ((rpw G (frW k P) P (2 ^ k / 2)) j)))))] := hD
        refine lv_iinc (v := nI (i + 1)) (lv' := [(6, .int (nI (i + 1))), (4, .long (lI (frW k P))), (3, .int (nI (2 ^ k))), (2, .int (nI P)), (1, .int (nI k)), (0, .ref hh)]) hx hb dX0_foldRoundModulo_75 hl (k := 0) rfl (nI_add i 1) (by decide) rfl (fun ls hl => ?_)
        refine lv_goto (tgt := 44) hx hb dX0_foldRoundModulo_78 (by decide) ?_
        exact ih_44  (i + 1) (by omega) (by omega) _ _ _ (hP.sub [0, 1, 2, 3] rfl) (hD.sub [0, 1, 2, 3] (by decide) rfl) hS (lv_sub hl [0, 1, 2, 3, 4, 5] rfl)
  exact key_44 (2 ^ k + 1) 0 (by omega) (by omega) _ _ _ (hP.sub [1, 0, 2, 3] rfl) (hD.sub [1, 0, 2, 3] (by decide) rfl) hS (lv_sub hl [0, 1, 2, 5, 4, 3] rfl)

abbrev q_X2_setRemainder (dC : Nat → ClassId) (dI : Nat → Nat → Nat) (cI cO : ClassId) (sm so ra : Nat) (g : Nat → Option Nat) (f : Nat → Int32) (M q i : Nat) (x : Int) (A : Nat → Prop) : Array Value → State → Outcome → State → Prop := va_Qv (fun (u : Unit) => True) (fun u t => va_P (dC, dI) vwCl [(sm, .inr (1, [.ref so])), (so, .inl (cO, 3, .inr (.inr (.inr (.inr g))))), (ra, .inl (cI, M, .inl (upd f i (iI x))))] t.heap ∧ va_D A [(sm, .inr (1, [.ref so])), (so, .inl (cO, 3, .inr (.inr (.inr (.inr g))))), (ra, .inl (cI, M, .inl (upd f i (iI x))))]) A
set_option maxHeartbeats 4000000 in
set_option maxRecDepth 100000 in
theorem c_X2_setRemainder (l : Launch) (dC : Nat → ClassId) (dI : Nat → Nat → Nat) (cI cO : ClassId) (sm so ra : Nat) (g : Nat → Option Nat) (f : Nat → Int32) (M q i : Nat) (x : Int) (sz : Nat) (hg : g q = some ra) (hq : q < 3) (hi : i < M) (hM : M ≤ 512) : Met l yX2_setRemainder wsX2_setRemainder ({ frames := 0, cells := 0, slots := 0, locals := 0 }) (va_Pc [.ref sm, .int (nI q), .int (nI i), .long (lI x)] (fun U => U.heap.size = sz ∧ va_P (dC, dI) vwCl [(sm, .inr (1, [.ref so])), (so, .inl (cO, 3, .inr (.inr (.inr (.inr g))))), (ra, .inl (cI, M, .inl f))] U.heap ∧ va_K (dC, dI) vwCl [(cI, .int), (cO, .array .int)] U ∧ va_D (fun _ => True) [(sm, .inr (1, [.ref so])), (so, .inl (cO, 3, .inr (.inr (.inr (.inr g))))), (ra, .inl (cI, M, .inl f))])) (q_X2_setRemainder dC dI cI cO sm so ra g f M q i x (va_A [(sm, .inr (1, [.ref so])), (so, .inl (cO, 3, .inr (.inr (.inr (.inr g))))), (ra, .inl (cI, M, .inl f))] sz)) 0 0 (va_A [(sm, .inr (1, [.ref so])), (so, .inl (cO, 3, .inr (.inr (.inr (.inr g))))), (ra, .inl (cI, M, .inl f))] sz) := by
  refine Met.ofW (cc := cX2_setRemainder) (maxL := 5) (ret := none) (by decide) rfl ?_
  intro p e s m args below meth c s₁ B hml hv
  obtain ⟨rfl, hsz, hP, hK, hD0⟩ := hv
  have hx := B.exec
  have hb := B.bytes
  have hr := B.returns
  have hts := atoms_spec (ws := wsX2_setRemainder) B.pre
  have hown : s.vm.findClass RX2 = some m.cls := findClass_of_methodNamed B.named
  have hlocks := B.notSynchronized
  subst hsz
  have hD := hD0.self (sz := s.heap.size)
  generalize hAe : va_A [(sm, .inr (1, [.ref so])), (so, .inl (cO, 3, .inr (.inr (.inr (.inr g))))), (ra, .inl (cI, M, .inl f))] s.heap.size = A at hD ⊢
  have hA : ∀ q : Nat, s.heap.size ≤ q → A q := fun q h => by rw [← hAe]; exact Or.inr h
  have hS : va_S A s.heap s.heap [] := va_S.rf
  have hP : va_P (dC, dI) vwCl [(sm, .inr (1, [.ref so])), (so, .inl (cO, 3, .inr (.inr (.inr (.inr g))))), (ra, .inl (cI, M, .inl f))] s.heap := hP
  have hl := lv_entry (([.ref sm, .int (nI q), .int (nI i), .long (lI x)] : List Value)) (n := 5) (Nat.le_of_ble_eq_true rfl)
  rw [lg_entry_eq]
  generalize (lg_sl (([.ref sm, .int (nI q), .int (nI i), .long (lI x)] : List Value)) ++ List.replicate (5 - (lg_sl (([.ref sm, .int (nI q), .int (nI i), .long (lI x)] : List Value))).length) Slot.unset).toArray = ls at hl ⊢
  have hl : lv_has ls 5 [(0, .ref sm), (1, .int (nI q)), (2, .int (nI i)), (3, .long (lI x))] := hl
  obtain ⟨H, hHe⟩ : ∃ H : Heap, H = s.heap := ⟨_, rfl⟩
  rw [← hHe] at hP
  have hS : va_S A s.heap H [] := by rw [hHe]; exact hS
  obtain ⟨locs, hlo⟩ : ∃ L : List Loc, L = [] := ⟨_, rfl⟩
  rw [← hlo] at hS ⊢
  rw [← hHe]
  refine lv_aload_n hx hb dX2_setRemainder_0 rfl (lv_at hl 0 rfl) ?_
  refine va_get (D := (dC, dI)) (ci := 1) (v := .ref so) (C := RX2) (T := TX2) (N := 1) hx hb hts (by decide +kernel) hown hK hP 0 rfl rfl 0 (by decide) (hts (.fieldLink RX2 15 "ThreePrimes$Sums" "remainders" "[[I") (by decide +kernel)) (fun _ h9 => h9) rfl dX2_setRemainder_1 ?_
  refine lv_iload_n hx hb dX2_setRemainder_4 rfl (lv_at hl 1 rfl) ?_
  refine zz_aldA hx hb hK hP 1 1 rfl rfl (vp_in_nI (by omega) (by omega)) dX2_setRemainder_5 ?_
  refine W.eq (g2 := F0 m _ ls [.ref ra]) (by rw [nI_clamp (by omega), hg]; rfl) ?_
  refine lv_iload_n hx hb dX2_setRemainder_6 rfl (lv_at hl 2 rfl) ?_
  refine lv_lload_n hx hb dX2_setRemainder_7 rfl (lv_at hl 3 rfl) ?_
  refine lv_l2i (v := iI x) hx hb dX2_setRemainder_8 (lI_i x) ?_
  refine va_iast hx hb hK hP hD hS 2 0 rfl rfl (vp_in_nI (by omega) (by omega)) dX2_setRemainder_9 (fun H locs hP hD hS => ?_)
  rw [nI_clamp (show i < 2 ^ 31 by omega)] at hP hD
  have hP : va_P (dC, dI) vwCl [(sm, .inr (1, [.ref so])), (so, .inl (cO, 3, .inr (.inr (.inr (.inr g))))), (ra, .inl (cI, M, .inl (upd f i (iI x))))] H := hP
  have hD : va_D A [(sm, .inr (1, [.ref so])), (so, .inl (cO, 3, .inr (.inr (.inr (.inr g))))), (ra, .inl (cI, M, .inl (upd f i (iI x))))] := hD
  have hP9 : va_P (dC, dI) vwCl [(sm, .inr (1, [.ref so])), (so, .inl (cO, 3, .inr (.inr (.inr (.inr g))))), (ra, .inl (cI, M, .inl (upd f i (iI x))))] H := hP.sub [0, 1, 2] rfl
  have hD9 : va_D A [(sm, .inr (1, [.ref so])), (so, .inl (cO, 3, .inr (.inr (.inr (.inr g))))), (ra, .inl (cI, M, .inl (upd f i (iI x))))] := hD.sub [0, 1, 2] (by decide) rfl
  exact W.vret hx hb hr (fun t ht hW => ⟨⟨(), rfl, trivial, by rw [ht]; exact hP9, hD9⟩, hS.F ht⟩) hS.2.2 dX2_setRemainder_10

abbrev q_X2_remainder (dC : Nat → ClassId) (dI : Nat → Nat → Nat) (cI cO : ClassId) (sm so ra : Nat) (g : Nat → Option Nat) (f : Nat → Int32) (M q i : Nat) (A : Nat → Prop) : Array Value → State → Outcome → State → Prop := va_Qi (fun (r : Int32) (u : Unit) => r = f i) (fun u t => va_P (dC, dI) vwCl [(sm, .inr (1, [.ref so])), (so, .inl (cO, 3, .inr (.inr (.inr (.inr g))))), (ra, .inl (cI, M, .inl f))] t.heap ∧ va_D A [(sm, .inr (1, [.ref so])), (so, .inl (cO, 3, .inr (.inr (.inr (.inr g))))), (ra, .inl (cI, M, .inl f))]) A
set_option maxHeartbeats 4000000 in
set_option maxRecDepth 100000 in
theorem c_X2_remainder (l : Launch) (dC : Nat → ClassId) (dI : Nat → Nat → Nat) (cI cO : ClassId) (sm so ra : Nat) (g : Nat → Option Nat) (f : Nat → Int32) (M q i : Nat) (sz : Nat) (hg : g q = some ra) (hq : q < 3) (hi : i < M) (hM : M ≤ 512) : Met l yX2_remainder wsX2_remainder ({ frames := 0, cells := 0, slots := 0, locals := 0 }) (va_Pc [.ref sm, .int (nI q), .int (nI i)] (fun U => U.heap.size = sz ∧ va_P (dC, dI) vwCl [(sm, .inr (1, [.ref so])), (so, .inl (cO, 3, .inr (.inr (.inr (.inr g))))), (ra, .inl (cI, M, .inl f))] U.heap ∧ va_K (dC, dI) vwCl [(cI, .int), (cO, .array .int)] U ∧ va_D (fun _ => True) [(sm, .inr (1, [.ref so])), (so, .inl (cO, 3, .inr (.inr (.inr (.inr g))))), (ra, .inl (cI, M, .inl f))])) (q_X2_remainder dC dI cI cO sm so ra g f M q i (va_A [(sm, .inr (1, [.ref so])), (so, .inl (cO, 3, .inr (.inr (.inr (.inr g))))), (ra, .inl (cI, M, .inl f))] sz)) 0 0 (va_A [(sm, .inr (1, [.ref so])), (so, .inl (cO, 3, .inr (.inr (.inr (.inr g))))), (ra, .inl (cI, M, .inl f))] sz) := by
  refine Met.ofW (cc := cX2_remainder) (maxL := 3) (ret := (some .int)) (by decide) rfl ?_
  intro p e s m args below meth c s₁ B hml hv
  obtain ⟨rfl, hsz, hP, hK, hD0⟩ := hv
  have hx := B.exec
  have hb := B.bytes
  have hr := B.returns
  have hts := atoms_spec (ws := wsX2_remainder) B.pre
  have hown : s.vm.findClass RX2 = some m.cls := findClass_of_methodNamed B.named
  have hlocks := B.notSynchronized
  subst hsz
  have hD := hD0.self (sz := s.heap.size)
  generalize hAe : va_A [(sm, .inr (1, [.ref so])), (so, .inl (cO, 3, .inr (.inr (.inr (.inr g))))), (ra, .inl (cI, M, .inl f))] s.heap.size = A at hD ⊢
  have hA : ∀ q : Nat, s.heap.size ≤ q → A q := fun q h => by rw [← hAe]; exact Or.inr h
  have hS : va_S A s.heap s.heap [] := va_S.rf
  have hP : va_P (dC, dI) vwCl [(sm, .inr (1, [.ref so])), (so, .inl (cO, 3, .inr (.inr (.inr (.inr g))))), (ra, .inl (cI, M, .inl f))] s.heap := hP
  have hl := lv_entry (([.ref sm, .int (nI q), .int (nI i)] : List Value)) (n := 3) (Nat.le_of_ble_eq_true rfl)
  rw [lg_entry_eq]
  generalize (lg_sl (([.ref sm, .int (nI q), .int (nI i)] : List Value)) ++ List.replicate (3 - (lg_sl (([.ref sm, .int (nI q), .int (nI i)] : List Value))).length) Slot.unset).toArray = ls at hl ⊢
  have hl : lv_has ls 3 [(0, .ref sm), (1, .int (nI q)), (2, .int (nI i))] := hl
  obtain ⟨H, hHe⟩ : ∃ H : Heap, H = s.heap := ⟨_, rfl⟩
  rw [← hHe] at hP
  have hS : va_S A s.heap H [] := by rw [hHe]; exact hS
  obtain ⟨locs, hlo⟩ : ∃ L : List Loc, L = [] := ⟨_, rfl⟩
  rw [← hlo] at hS ⊢
  rw [← hHe]
  refine lv_aload_n hx hb dX2_remainder_0 rfl (lv_at hl 0 rfl) ?_
  refine va_get (D := (dC, dI)) (ci := 1) (v := .ref so) (C := RX2) (T := TX2) (N := 1) hx hb hts (by decide +kernel) hown hK hP 0 rfl rfl 0 (by decide) (hts (.fieldLink RX2 15 "ThreePrimes$Sums" "remainders" "[[I") (by decide +kernel)) (fun _ h9 => h9) rfl dX2_remainder_1 ?_
  refine lv_iload_n hx hb dX2_remainder_4 rfl (lv_at hl 1 rfl) ?_
  refine zz_aldA hx hb hK hP 1 1 rfl rfl (vp_in_nI (by omega) (by omega)) dX2_remainder_5 ?_
  refine W.eq (g2 := F0 m _ ls [.ref ra]) (by rw [nI_clamp (by omega), hg]; rfl) ?_
  refine lv_iload_n hx hb dX2_remainder_6 rfl (lv_at hl 2 rfl) ?_
  refine va_iald hx hb hK hP 2 0 rfl rfl (vp_in_nI (by omega) (by omega)) dX2_remainder_7 ?_
  refine W.eq (g2 := F0 m _ ls [.int (f i)]) (by rw [nI_clamp (by omega)]) ?_
  have hP9 : va_P (dC, dI) vwCl [(sm, .inr (1, [.ref so])), (so, .inl (cO, 3, .inr (.inr (.inr (.inr g))))), (ra, .inl (cI, M, .inl f))] H := hP.sub [0, 1, 2] rfl
  have hD9 : va_D A [(sm, .inr (1, [.ref so])), (so, .inl (cO, 3, .inr (.inr (.inr (.inr g))))), (ra, .inl (cI, M, .inl f))] := hD.sub [0, 1, 2] (by decide) rfl
  exact W.iret (v := f i) hx hb hr (fun t ht hW => ⟨⟨f i, (), rfl, rfl, by rw [ht]; exact hP9, hD9⟩, hS.F ht⟩) hS.2.2 dX2_remainder_8

abbrev q_X2_moduloFirstTwo (dC : Nat → ClassId) (dI : Nat → Nat → Nat) (cI cO : ClassId) (sm so r0 r1 r2 : Nat) (g : Nat → Option Nat) (R0 R1 R2 : Nat → Int32) (M i : Nat) (A : Nat → Prop) : Array Value → State → Outcome → State → Prop := va_Ql (fun (r : Int64) (u : Unit) => r = lI (mft (R0 i).toInt (R1 i).toInt)) (fun u t => va_P (dC, dI) vwCl [(sm, .inr (1, [.ref so])), (so, .inl (cO, 3, .inr (.inr (.inr (.inr g))))), (r0, .inl (cI, M, .inl R0)), (r1, .inl (cI, M, .inl R1)), (r2, .inl (cI, M, .inl R2))] t.heap ∧ va_D A [(sm, .inr (1, [.ref so])), (so, .inl (cO, 3, .inr (.inr (.inr (.inr g))))), (r0, .inl (cI, M, .inl R0)), (r1, .inl (cI, M, .inl R1)), (r2, .inl (cI, M, .inl R2))]) A
set_option maxHeartbeats 4000000 in
set_option maxRecDepth 100000 in
theorem c_X2_moduloFirstTwo (l : Launch) (dC : Nat → ClassId) (dI : Nat → Nat → Nat) (cI cO : ClassId) (sm so r0 r1 r2 : Nat) (g : Nat → Option Nat) (R0 R1 R2 : Nat → Int32) (M i : Nat) (sz : Nat) (hg0 : g 0 = some r0) (hg1 : g 1 = some r1) (hg2 : g 2 = some r2) (hi : i < M) (hM : M ≤ 512) : Met l yX2_moduloFirstTwo wsX2_moduloFirstTwo ({ frames := 1, cells := 0, slots := 0, locals := 24 }) (va_Pc [.ref sm, .int (nI i)] (fun U => U.heap.size = sz ∧ va_P (dC, dI) vwCl [(sm, .inr (1, [.ref so])), (so, .inl (cO, 3, .inr (.inr (.inr (.inr g))))), (r0, .inl (cI, M, .inl R0)), (r1, .inl (cI, M, .inl R1)), (r2, .inl (cI, M, .inl R2))] U.heap ∧ va_K (dC, dI) vwCl [(cI, .int), (cO, .array .int)] U ∧ va_D (fun _ => True) [(sm, .inr (1, [.ref so])), (so, .inl (cO, 3, .inr (.inr (.inr (.inr g))))), (r0, .inl (cI, M, .inl R0)), (r1, .inl (cI, M, .inl R1)), (r2, .inl (cI, M, .inl R2))])) (q_X2_moduloFirstTwo dC dI cI cO sm so r0 r1 r2 g R0 R1 R2 M i (va_A [(sm, .inr (1, [.ref so])), (so, .inl (cO, 3, .inr (.inr (.inr (.inr g))))), (r0, .inl (cI, M, .inl R0)), (r1, .inl (cI, M, .inl R1)), (r2, .inl (cI, M, .inl R2))] sz)) 0 0 (va_A [(sm, .inr (1, [.ref so])), (so, .inl (cO, 3, .inr (.inr (.inr (.inr g))))), (r0, .inl (cI, M, .inl R0)), (r1, .inl (cI, M, .inl R1)), (r2, .inl (cI, M, .inl R2))] sz) := by
  refine Met.ofW (cc := cX2_moduloFirstTwo) (maxL := 6) (ret := (some .long)) (by decide) rfl ?_
  intro p e s m args below meth c s₁ B hml hv
  obtain ⟨rfl, hsz, hP, hK, hD0⟩ := hv
  have hx := B.exec
  have hb := B.bytes
  have hr := B.returns
  have hts := atoms_spec (ws := wsX2_moduloFirstTwo) B.pre
  have hown : s.vm.findClass RX2 = some m.cls := findClass_of_methodNamed B.named
  have hlocks := B.notSynchronized
  subst hsz
  have hD := hD0.self (sz := s.heap.size)
  generalize hAe : va_A [(sm, .inr (1, [.ref so])), (so, .inl (cO, 3, .inr (.inr (.inr (.inr g))))), (r0, .inl (cI, M, .inl R0)), (r1, .inl (cI, M, .inl R1)), (r2, .inl (cI, M, .inl R2))] s.heap.size = A at hD ⊢
  have hA : ∀ q : Nat, s.heap.size ≤ q → A q := fun q h => by rw [← hAe]; exact Or.inr h
  have hS : va_S A s.heap s.heap [] := va_S.rf
  have hP : va_P (dC, dI) vwCl [(sm, .inr (1, [.ref so])), (so, .inl (cO, 3, .inr (.inr (.inr (.inr g))))), (r0, .inl (cI, M, .inl R0)), (r1, .inl (cI, M, .inl R1)), (r2, .inl (cI, M, .inl R2))] s.heap := hP
  have hl := lv_entry (([.ref sm, .int (nI i)] : List Value)) (n := 6) (Nat.le_of_ble_eq_true rfl)
  rw [lg_entry_eq]
  generalize (lg_sl (([.ref sm, .int (nI i)] : List Value)) ++ List.replicate (6 - (lg_sl (([.ref sm, .int (nI i)] : List Value))).length) Slot.unset).toArray = ls at hl ⊢
  have hl : lv_has ls 6 [(0, .ref sm), (1, .int (nI i))] := hl
  obtain ⟨H, hHe⟩ : ∃ H : Heap, H = s.heap := ⟨_, rfl⟩
  rw [← hHe] at hP
  have hS : va_S A s.heap H [] := by rw [hHe]; exact hS
  obtain ⟨locs, hlo⟩ : ∃ L : List Loc, L = [] := ⟨_, rfl⟩
  rw [← hlo] at hS ⊢
  rw [← hHe]
  have h0 := i32b (R0 i)
  have h1 := i32b (R1 i)
  refine lv_aload_n hx hb dX2_moduloFirstTwo_0 rfl (lv_at hl 0 rfl) ?_
  refine va_get (D := (dC, dI)) (ci := 1) (v := .ref so) (C := RX2) (T := TX2) (N := 1) hx hb hts (by decide +kernel) hown hK hP 0 rfl rfl 0 (by decide) (hts (.fieldLink RX2 15 "ThreePrimes$Sums" "remainders" "[[I") (by decide +kernel)) (fun _ h9 => h9) rfl dX2_moduloFirstTwo_1 ?_
  refine lv_iconst (v := nI 0) hx hb dX2_moduloFirstTwo_4 (by decide) ?_
  refine zz_aldA hx hb hK hP 1 1 rfl rfl (vp_in_nI (by omega) (by omega)) dX2_moduloFirstTwo_5 ?_
  refine W.eq (g2 := F0 m _ ls [.ref r0]) (by rw [nI_clamp (by omega), hg0]; rfl) ?_
  refine lv_iload_n hx hb dX2_moduloFirstTwo_6 rfl (lv_at hl 1 rfl) ?_
  refine va_iald hx hb hK hP 2 0 rfl rfl (vp_in_nI (by omega) (by omega)) dX2_moduloFirstTwo_7 ?_
  refine W.eq (g2 := F0 m _ ls [.int (R0 i)]) (by rw [nI_clamp (by omega)]) ?_
  refine lv_i2l (v := lI ((R0 i).toInt)) hx hb dX2_moduloFirstTwo_8 (i2l_I (R0 i)) ?_
  refine lv_lstore_n (lv' := [(2, .long (lI ((R0 i).toInt))), (0, .ref sm), (1, .int (nI i))]) hx hb dX2_moduloFirstTwo_9 rfl hl (by decide) rfl (fun ls hl => ?_)
  refine lv_aload_n hx hb dX2_moduloFirstTwo_10 rfl (lv_at hl 1 rfl) ?_
  refine va_get (D := (dC, dI)) (ci := 1) (v := .ref so) (C := RX2) (T := TX2) (N := 1) hx hb hts (by decide +kernel) hown hK hP 0 rfl rfl 0 (by decide) (hts (.fieldLink RX2 15 "ThreePrimes$Sums" "remainders" "[[I") (by decide +kernel)) (fun _ h9 => h9) rfl dX2_moduloFirstTwo_11 ?_
  refine lv_iconst (v := nI 1) hx hb dX2_moduloFirstTwo_14 (by decide) ?_
  refine zz_aldA hx hb hK hP 1 1 rfl rfl (vp_in_nI (by omega) (by omega)) dX2_moduloFirstTwo_15 ?_
  refine W.eq (g2 := F0 m _ ls [.ref r1]) (by rw [nI_clamp (by omega), hg1]; rfl) ?_
  refine lv_iload_n hx hb dX2_moduloFirstTwo_16 rfl (lv_at hl 2 rfl) ?_
  refine va_iald hx hb hK hP 3 0 rfl rfl (vp_in_nI (by omega) (by omega)) dX2_moduloFirstTwo_17 ?_
  refine W.eq (g2 := F0 m _ ls [.int (R1 i)]) (by rw [nI_clamp (by omega)]) ?_
  refine lv_i2l (v := lI ((R1 i).toInt)) hx hb dX2_moduloFirstTwo_18 (i2l_I (R1 i)) ?_
  refine lv_lload_n hx hb dX2_moduloFirstTwo_19 rfl (lv_at hl 0 rfl) ?_
  refine lv_lsub hx hb dX2_moduloFirstTwo_20 ?_
  refine W.eq (congrArg (fun z => F0 m _ ls (.long z :: _)) (show lI ((R1 i).toInt) - lI ((R0 i).toInt) = lI (((R1 i).toInt) - ((R0 i).toInt)) from lI_sub ((R1 i).toInt) ((R0 i).toInt))) ?_
  refine lv_lstore (lv' := [(4, .long (lI (((R1 i).toInt) - ((R0 i).toInt)))), (2, .long (lI ((R0 i).toInt))), (0, .ref sm), (1, .int (nI i))]) hx hb dX2_moduloFirstTwo_21 hl (by decide) rfl (fun ls hl => ?_)
  refine lv_lload_n hx hb dX2_moduloFirstTwo_23 rfl (lv_at hl 1 rfl) ?_
  refine lv_ldc2 (own := RX2) (v := lI (998244353)) hx hb hown (hts (.constantLong RX2 37 (998244353)) (by decide +kernel)) dX2_moduloFirstTwo_24 ?_
  refine lv_lload hx hb dX2_moduloFirstTwo_27 (lv_at hl 0 rfl) ?_
  refine lv_ldc2 (own := RX2) (v := lI (47450712)) hx hb hown (hts (.constantLong RX2 39 (47450712)) (by decide +kernel)) dX2_moduloFirstTwo_29 ?_
  refine lv_lmul hx hb dX2_moduloFirstTwo_32 ?_
  refine W.eq (congrArg (fun z => F0 m _ ls (.long z :: _)) (show lI (((R1 i).toInt) - ((R0 i).toInt)) * lI 47450712 = lI ((((R1 i).toInt) - ((R0 i).toInt)) * 47450712) from lI_mul (((R1 i).toInt) - ((R0 i).toInt)) 47450712)) ?_
  refine lv_ldc (own := RX2) (v := 167772161) hx hb hown (hts (.constant RX2 41 167772161) (by decide +kernel)) dX2_moduloFirstTwo_33 ?_
  refine W.eq (g2 := F0 m 35 ls [.int (nI 167772161), .long (lI ((((R1 i).toInt) - ((R0 i).toInt)) * 47450712)), .long (lI 998244353), .long (lI ((R0 i).toInt))]) rfl ?_
  have hPc := hP.sub (ws' := []) [] rfl
  have hDc := hD.sub (ws' := []) [] (by decide) rfl
  have hKc := hK.sub (tys' := []) [] rfl
  have hFc := va_free (wc := []) hD hS hA [] rfl
  refine va_calll (va_runS (As := [.long (lI ((((R1 i).toInt) - ((R0 i).toInt)) * 47450712)), .int (nI 167772161)]) (rest := [.long (lI 998244353), .long (lI ((R0 i).toInt))]) ⟨hx, hb, hml, hown, hts⟩ (c_X1_remainder l dC dI ((((R1 i).toInt) - ((R0 i).toInt)) * 47450712) 167772161 H.size (by omega) (by omega) (by omega) (by omega)) (va_cwS 2 hts gX2_moduloFirstTwo_X1_remainder rfl rfl rfl (by decide +kernel) ⟨Nat.le_of_ble_eq_true rfl, Nat.le_of_ble_eq_true rfl⟩) ⟨fun a U g mk q => by obtain ⟨q0, q1, qP, qK, qD⟩ := q; exact ⟨q0, q1, qP, va_K.moved (u := U) (U := U.calling g mk a) (Vm.Alike.refl U.vm) qK, qD⟩, fun U hU hW => ⟨rfl, by rw [hU], by rw [hU]; exact hPc, va_K.moved hW.alike hKc, hDc.weaken (fun _ _ _ _ => trivial)⟩⟩ rfl rfl hl.1 rfl (lv_room (Nat.le_of_ble_eq_true rfl)) dX2_moduloFirstTwo_35 ⟨Nat.le_of_ble_eq_true rfl, Nat.le_of_ble_eq_true rfl⟩) hS (fun q _ h => hFc q h) hFc (fun r9 u9 t9 H1 locs ht hvm hw hB hz1 hk1 hS => ?_)
  obtain ⟨hP1, hD1⟩ := hB
  rw [ht] at hP1
  try dsimp only at hw
  obtain ⟨hP, hD⟩ := va_join (wr := [(sm, .inr (1, [.ref so])), (so, .inl (cO, 3, .inr (.inr (.inr (.inr g))))), (r0, .inl (cI, M, .inl R0)), (r1, .inl (cI, M, .inl R1)), (r2, .inl (cI, M, .inl R2))]) (w1 := []) hP hD [] [0, 1, 2, 3, 4] rfl rfl (by decide) (by decide) hk1 hFc hP1 hD1
  generalize H1 = H at hP hS ⊢
  have hP : va_P (dC, dI) vwCl [(sm, .inr (1, [.ref so])), (so, .inl (cO, 3, .inr (.inr (.inr (.inr g))))), (r0, .inl (cI, M, .inl R0)), (r1, .inl (cI, M, .inl R1)), (r2, .inl (cI, M, .inl R2))] H := hP
  have hD : va_D A [(sm, .inr (1, [.ref so])), (so, .inl (cO, 3, .inr (.inr (.inr (.inr g))))), (r0, .inl (cI, M, .inl R0)), (r1, .inl (cI, M, .inl R1)), (r2, .inl (cI, M, .inl R2))] := hD
  clear hPc hDc hKc hFc hP1 hD1 hk1 hz1 hvm ht
  subst hw
  refine lv_lmul hx hb dX2_moduloFirstTwo_38 ?_
  refine W.eq (congrArg (fun z => F0 m _ ls (.long z :: _)) (show lI 998244353 * lI (((((R1 i).toInt) - ((R0 i).toInt)) * 47450712) % (167772161 : Int)) = lI (998244353 * (((((R1 i).toInt) - ((R0 i).toInt)) * 47450712) % (167772161 : Int))) from lI_mul 998244353 (((((R1 i).toInt) - ((R0 i).toInt)) * 47450712) % (167772161 : Int)))) ?_
  refine lv_ladd hx hb dX2_moduloFirstTwo_39 ?_
  refine W.eq (congrArg (fun z => F0 m _ ls (.long z :: _)) (show lI ((R0 i).toInt) + lI (998244353 * (((((R1 i).toInt) - ((R0 i).toInt)) * 47450712) % (167772161 : Int))) = lI (((R0 i).toInt) + (998244353 * (((((R1 i).toInt) - ((R0 i).toInt)) * 47450712) % (167772161 : Int)))) from lI_add ((R0 i).toInt) (998244353 * (((((R1 i).toInt) - ((R0 i).toInt)) * 47450712) % (167772161 : Int))))) ?_
  have hP9 : va_P (dC, dI) vwCl [(sm, .inr (1, [.ref so])), (so, .inl (cO, 3, .inr (.inr (.inr (.inr g))))), (r0, .inl (cI, M, .inl R0)), (r1, .inl (cI, M, .inl R1)), (r2, .inl (cI, M, .inl R2))] H := hP.sub [0, 1, 2, 3, 4] rfl
  have hD9 : va_D A [(sm, .inr (1, [.ref so])), (so, .inl (cO, 3, .inr (.inr (.inr (.inr g))))), (r0, .inl (cI, M, .inl R0)), (r1, .inl (cI, M, .inl R1)), (r2, .inl (cI, M, .inl R2))] := hD.sub [0, 1, 2, 3, 4] (by decide) rfl
  exact W.lret (v := lI (((R0 i).toInt) + (998244353 * (((((R1 i).toInt) - ((R0 i).toInt)) * 47450712) % (167772161 : Int))))) hx hb hr (fun t ht hW => ⟨⟨lI (((R0 i).toInt) + (998244353 * (((((R1 i).toInt) - ((R0 i).toInt)) * 47450712) % (167772161 : Int)))), (), rfl, rfl, by rw [ht]; exact hP9, hD9⟩, hS.F ht⟩) hS.2.2 dX2_moduloFirstTwo_40

abbrev q_X2_timesOfFirstTwo (dC : Nat → ClassId) (dI : Nat → Nat → Nat) (cI cO : ClassId) (sm so r0 r1 r2 : Nat) (g : Nat → Option Nat) (R0 R1 R2 : Nat → Int32) (M i : Nat) (z : Int) (A : Nat → Prop) : Array Value → State → Outcome → State → Prop := va_Ql (fun (r : Int64) (u : Unit) => r = lI (tft (R2 i).toInt z)) (fun u t => va_P (dC, dI) vwCl [(sm, .inr (1, [.ref so])), (so, .inl (cO, 3, .inr (.inr (.inr (.inr g))))), (r0, .inl (cI, M, .inl R0)), (r1, .inl (cI, M, .inl R1)), (r2, .inl (cI, M, .inl R2))] t.heap ∧ va_D A [(sm, .inr (1, [.ref so])), (so, .inl (cO, 3, .inr (.inr (.inr (.inr g))))), (r0, .inl (cI, M, .inl R0)), (r1, .inl (cI, M, .inl R1)), (r2, .inl (cI, M, .inl R2))]) A
set_option maxHeartbeats 4000000 in
set_option maxRecDepth 100000 in
theorem c_X2_timesOfFirstTwo (l : Launch) (dC : Nat → ClassId) (dI : Nat → Nat → Nat) (cI cO : ClassId) (sm so r0 r1 r2 : Nat) (g : Nat → Option Nat) (R0 R1 R2 : Nat → Int32) (M i : Nat) (z : Int) (sz : Nat) (hg0 : g 0 = some r0) (hg1 : g 1 = some r1) (hg2 : g 2 = some r2) (hi : i < M) (hM : M ≤ 512) (hz0 : -2 ^ 31 ≤ z) (hz1 : z < 2 ^ 58) : Met l yX2_timesOfFirstTwo wsX2_timesOfFirstTwo ({ frames := 1, cells := 0, slots := 0, locals := 24 }) (va_Pc [.ref sm, .int (nI i), .long (lI z)] (fun U => U.heap.size = sz ∧ va_P (dC, dI) vwCl [(sm, .inr (1, [.ref so])), (so, .inl (cO, 3, .inr (.inr (.inr (.inr g))))), (r0, .inl (cI, M, .inl R0)), (r1, .inl (cI, M, .inl R1)), (r2, .inl (cI, M, .inl R2))] U.heap ∧ va_K (dC, dI) vwCl [(cI, .int), (cO, .array .int)] U ∧ va_D (fun _ => True) [(sm, .inr (1, [.ref so])), (so, .inl (cO, 3, .inr (.inr (.inr (.inr g))))), (r0, .inl (cI, M, .inl R0)), (r1, .inl (cI, M, .inl R1)), (r2, .inl (cI, M, .inl R2))])) (q_X2_timesOfFirstTwo dC dI cI cO sm so r0 r1 r2 g R0 R1 R2 M i z (va_A [(sm, .inr (1, [.ref so])), (so, .inl (cO, 3, .inr (.inr (.inr (.inr g))))), (r0, .inl (cI, M, .inl R0)), (r1, .inl (cI, M, .inl R1)), (r2, .inl (cI, M, .inl R2))] sz)) 0 0 (va_A [(sm, .inr (1, [.ref so])), (so, .inl (cO, 3, .inr (.inr (.inr (.inr g))))), (r0, .inl (cI, M, .inl R0)), (r1, .inl (cI, M, .inl R1)), (r2, .inl (cI, M, .inl R2))] sz) := by
  refine Met.ofW (cc := cX2_timesOfFirstTwo) (maxL := 8) (ret := (some .long)) (by decide) rfl ?_
  intro p e s m args below meth c s₁ B hml hv
  obtain ⟨rfl, hsz, hP, hK, hD0⟩ := hv
  have hx := B.exec
  have hb := B.bytes
  have hr := B.returns
  have hts := atoms_spec (ws := wsX2_timesOfFirstTwo) B.pre
  have hown : s.vm.findClass RX2 = some m.cls := findClass_of_methodNamed B.named
  have hlocks := B.notSynchronized
  subst hsz
  have hD := hD0.self (sz := s.heap.size)
  generalize hAe : va_A [(sm, .inr (1, [.ref so])), (so, .inl (cO, 3, .inr (.inr (.inr (.inr g))))), (r0, .inl (cI, M, .inl R0)), (r1, .inl (cI, M, .inl R1)), (r2, .inl (cI, M, .inl R2))] s.heap.size = A at hD ⊢
  have hA : ∀ q : Nat, s.heap.size ≤ q → A q := fun q h => by rw [← hAe]; exact Or.inr h
  have hS : va_S A s.heap s.heap [] := va_S.rf
  have hP : va_P (dC, dI) vwCl [(sm, .inr (1, [.ref so])), (so, .inl (cO, 3, .inr (.inr (.inr (.inr g))))), (r0, .inl (cI, M, .inl R0)), (r1, .inl (cI, M, .inl R1)), (r2, .inl (cI, M, .inl R2))] s.heap := hP
  have hl := lv_entry (([.ref sm, .int (nI i), .long (lI z)] : List Value)) (n := 8) (Nat.le_of_ble_eq_true rfl)
  rw [lg_entry_eq]
  generalize (lg_sl (([.ref sm, .int (nI i), .long (lI z)] : List Value)) ++ List.replicate (8 - (lg_sl (([.ref sm, .int (nI i), .long (lI z)] : List Value))).length) Slot.unset).toArray = ls at hl ⊢
  have hl : lv_has ls 8 [(0, .ref sm), (1, .int (nI i)), (2, .long (lI z))] := hl
  obtain ⟨H, hHe⟩ : ∃ H : Heap, H = s.heap := ⟨_, rfl⟩
  rw [← hHe] at hP
  have hS : va_S A s.heap H [] := by rw [hHe]; exact hS
  obtain ⟨locs, hlo⟩ : ∃ L : List Loc, L = [] := ⟨_, rfl⟩
  rw [← hlo] at hS ⊢
  rw [← hHe]
  have h2 := i32b (R2 i)
  have ht1 := Int.tmod_lt_of_pos ((R2 i).toInt - z) (show (0 : Int) < 469762049 by omega)
  have ht2 : -(469762049 : Int) < ((R2 i).toInt - z).tmod 469762049 := by have h := Int.emod_nonneg ((R2 i).toInt - z) (show (469762049 : Int) ≠ 0 by omega); rw [Int.tmod_eq_emod]; split <;> omega
  have ht3 := emod_rng (((R2 i).toInt - z).tmod 469762049 * 115990628) (show (0 : Int) < 469762049 by omega)
  refine lv_aload_n hx hb dX2_timesOfFirstTwo_0 rfl (lv_at hl 0 rfl) ?_
  refine va_get (D := (dC, dI)) (ci := 1) (v := .ref so) (C := RX2) (T := TX2) (N := 1) hx hb hts (by decide +kernel) hown hK hP 0 rfl rfl 0 (by decide) (hts (.fieldLink RX2 15 "ThreePrimes$Sums" "remainders" "[[I") (by decide +kernel)) (fun _ h9 => h9) rfl dX2_timesOfFirstTwo_1 ?_
  refine lv_iconst (v := nI 2) hx hb dX2_timesOfFirstTwo_4 (by decide) ?_
  refine zz_aldA hx hb hK hP 1 1 rfl rfl (vp_in_nI (by omega) (by omega)) dX2_timesOfFirstTwo_5 ?_
  refine W.eq (g2 := F0 m _ ls [.ref r2]) (by rw [nI_clamp (by omega), hg2]; rfl) ?_
  refine lv_iload_n hx hb dX2_timesOfFirstTwo_6 rfl (lv_at hl 1 rfl) ?_
  refine va_iald hx hb hK hP 4 0 rfl rfl (vp_in_nI (by omega) (by omega)) dX2_timesOfFirstTwo_7 ?_
  refine W.eq (g2 := F0 m _ ls [.int (R2 i)]) (by rw [nI_clamp (by omega)]) ?_
  refine lv_i2l (v := lI ((R2 i).toInt)) hx hb dX2_timesOfFirstTwo_8 (i2l_I (R2 i)) ?_
  refine lv_lload_n hx hb dX2_timesOfFirstTwo_9 rfl (lv_at hl 2 rfl) ?_
  refine lv_lsub hx hb dX2_timesOfFirstTwo_10 ?_
  refine W.eq (congrArg (fun z => F0 m _ ls (.long z :: _)) (show lI ((R2 i).toInt) - lI z = lI (((R2 i).toInt) - z) from lI_sub ((R2 i).toInt) z)) ?_
  refine lv_ldc2 (own := RX2) (v := lI (469762049)) hx hb hown (hts (.constantLong RX2 48 (469762049)) (by decide +kernel)) dX2_timesOfFirstTwo_11 ?_
  refine lv_lrem hx hb dX2_timesOfFirstTwo_14 (fun zq9 => absurd ((lI_eq (b := 0) (by omega) (by omega) (by omega) (by omega)).mp zq9) (by omega)) ?_
  refine W.eq (congrArg (fun z => F0 m _ ls (.long z :: _)) (show lI (((R2 i).toInt) - z) - lI (((R2 i).toInt) - z) / lI 469762049 * lI 469762049 = lI ((((R2 i).toInt) - z).tmod 469762049) from lI_rem (by omega) (by omega) (by omega) (by omega))) ?_
  refine lv_lstore (lv' := [(4, .long (lI ((((R2 i).toInt) - z).tmod 469762049))), (0, .ref sm), (1, .int (nI i)), (2, .long (lI z))]) hx hb dX2_timesOfFirstTwo_15 hl (by decide) rfl (fun ls hl => ?_)
  refine lv_lload hx hb dX2_timesOfFirstTwo_17 (lv_at hl 0 rfl) ?_
  refine lv_ldc2 (own := RX2) (v := lI (115990628)) hx hb hown (hts (.constantLong RX2 50 (115990628)) (by decide +kernel)) dX2_timesOfFirstTwo_19 ?_
  refine lv_lmul hx hb dX2_timesOfFirstTwo_22 ?_
  refine W.eq (congrArg (fun z => F0 m _ ls (.long z :: _)) (show lI ((((R2 i).toInt) - z).tmod 469762049) * lI 115990628 = lI (((((R2 i).toInt) - z).tmod 469762049) * 115990628) from lI_mul ((((R2 i).toInt) - z).tmod 469762049) 115990628)) ?_
  refine lv_ldc (own := RX2) (v := 469762049) hx hb hown (hts (.constant RX2 52 469762049) (by decide +kernel)) dX2_timesOfFirstTwo_23 ?_
  refine W.eq (g2 := F0 m 25 ls [.int (nI 469762049), .long (lI (((((R2 i).toInt) - z).tmod 469762049) * 115990628))]) rfl ?_
  have hPc := hP.sub (ws' := []) [] rfl
  have hDc := hD.sub (ws' := []) [] (by decide) rfl
  have hKc := hK.sub (tys' := []) [] rfl
  have hFc := va_free (wc := []) hD hS hA [] rfl
  refine va_calll (va_runS (As := [.long (lI (((((R2 i).toInt) - z).tmod 469762049) * 115990628)), .int (nI 469762049)]) (rest := []) ⟨hx, hb, hml, hown, hts⟩ (c_X1_remainder l dC dI (((((R2 i).toInt) - z).tmod 469762049) * 115990628) 469762049 H.size (by omega) (by omega) (by omega) (by omega)) (va_cwS 2 hts gX2_timesOfFirstTwo_X1_remainder rfl rfl rfl (by decide +kernel) ⟨Nat.le_of_ble_eq_true rfl, Nat.le_of_ble_eq_true rfl⟩) ⟨fun a U g mk q => by obtain ⟨q0, q1, qP, qK, qD⟩ := q; exact ⟨q0, q1, qP, va_K.moved (u := U) (U := U.calling g mk a) (Vm.Alike.refl U.vm) qK, qD⟩, fun U hU hW => ⟨rfl, by rw [hU], by rw [hU]; exact hPc, va_K.moved hW.alike hKc, hDc.weaken (fun _ _ _ _ => trivial)⟩⟩ rfl rfl hl.1 rfl (lv_room (Nat.le_of_ble_eq_true rfl)) dX2_timesOfFirstTwo_25 ⟨Nat.le_of_ble_eq_true rfl, Nat.le_of_ble_eq_true rfl⟩) hS (fun q _ h => hFc q h) hFc (fun r9 u9 t9 H1 locs ht hvm hw hB hz1 hk1 hS => ?_)
  obtain ⟨hP1, hD1⟩ := hB
  rw [ht] at hP1
  try dsimp only at hw
  obtain ⟨hP, hD⟩ := va_join (wr := [(sm, .inr (1, [.ref so])), (so, .inl (cO, 3, .inr (.inr (.inr (.inr g))))), (r0, .inl (cI, M, .inl R0)), (r1, .inl (cI, M, .inl R1)), (r2, .inl (cI, M, .inl R2))]) (w1 := []) hP hD [] [0, 1, 2, 3, 4] rfl rfl (by decide) (by decide) hk1 hFc hP1 hD1
  generalize H1 = H at hP hS ⊢
  have hP : va_P (dC, dI) vwCl [(sm, .inr (1, [.ref so])), (so, .inl (cO, 3, .inr (.inr (.inr (.inr g))))), (r0, .inl (cI, M, .inl R0)), (r1, .inl (cI, M, .inl R1)), (r2, .inl (cI, M, .inl R2))] H := hP
  have hD : va_D A [(sm, .inr (1, [.ref so])), (so, .inl (cO, 3, .inr (.inr (.inr (.inr g))))), (r0, .inl (cI, M, .inl R0)), (r1, .inl (cI, M, .inl R1)), (r2, .inl (cI, M, .inl R2))] := hD
  clear hPc hDc hKc hFc hP1 hD1 hk1 hz1 hvm ht
  subst hw
  refine lv_lstore (lv' := [(6, .long (lI ((((((R2 i).toInt) - z).tmod 469762049) * 115990628) % (469762049 : Int)))), (4, .long (lI ((((R2 i).toInt) - z).tmod 469762049))), (0, .ref sm), (1, .int (nI i)), (2, .long (lI z))]) hx hb dX2_timesOfFirstTwo_28 hl (by decide) rfl (fun ls hl => ?_)
  refine lv_lload hx hb dX2_timesOfFirstTwo_30 (lv_at hl 0 rfl) ?_
  refine lv_ldc2 (own := RX2) (v := lI (234881024)) hx hb hown (hts (.constantLong RX2 53 (234881024)) (by decide +kernel)) dX2_timesOfFirstTwo_32 ?_
  refine W.lcmp hx hb dX2_timesOfFirstTwo_35 ?_
  refine lv_if_le (tgt := 48) hx hb dX2_timesOfFirstTwo_36 (by decide) (fun c_1 => ?_) (fun c_1 => ?_)
  · have c_1 : ((((((R2 i).toInt) - z).tmod 469762049) * 115990628) % (469762049 : Int)) ≤ 234881024 := ((lg_cmp_le _ _).trans (lI_le (a := (((((R2 i).toInt) - z).tmod 469762049) * 115990628) % (469762049 : Int)) (b := 234881024) (by omega) (by omega) (by omega) (by omega))).mp c_1
    refine lv_lload hx hb dX2_timesOfFirstTwo_48 (lv_at hl 0 rfl) ?_
    have hP9 : va_P (dC, dI) vwCl [(sm, .inr (1, [.ref so])), (so, .inl (cO, 3, .inr (.inr (.inr (.inr g))))), (r0, .inl (cI, M, .inl R0)), (r1, .inl (cI, M, .inl R1)), (r2, .inl (cI, M, .inl R2))] H := hP.sub [0, 1, 2, 3, 4] rfl
    have hD9 : va_D A [(sm, .inr (1, [.ref so])), (so, .inl (cO, 3, .inr (.inr (.inr (.inr g))))), (r0, .inl (cI, M, .inl R0)), (r1, .inl (cI, M, .inl R1)), (r2, .inl (cI, M, .inl R2))] := hD.sub [0, 1, 2, 3, 4] (by decide) rfl
    exact W.lret (v := lI ((((((R2 i).toInt) - z).tmod 469762049) * 115990628) % (469762049 : Int))) hx hb hr (fun t ht hW => ⟨⟨lI ((((((R2 i).toInt) - z).tmod 469762049) * 115990628) % (469762049 : Int)), (), rfl, by unfold tft; rw [if_neg (by omega)], by rw [ht]; exact hP9, hD9⟩, hS.F ht⟩) hS.2.2 dX2_timesOfFirstTwo_50
  · have c_1 : ¬ (((((((R2 i).toInt) - z).tmod 469762049) * 115990628) % (469762049 : Int)) ≤ 234881024) := fun zq9 => c_1 (((lg_cmp_le _ _).trans (lI_le (a := (((((R2 i).toInt) - z).tmod 469762049) * 115990628) % (469762049 : Int)) (b := 234881024) (by omega) (by omega) (by omega) (by omega))).mpr zq9)
    refine lv_lload hx hb dX2_timesOfFirstTwo_39 (lv_at hl 0 rfl) ?_
    refine lv_ldc2 (own := RX2) (v := lI (469762049)) hx hb hown (hts (.constantLong RX2 48 (469762049)) (by decide +kernel)) dX2_timesOfFirstTwo_41 ?_
    refine lv_lsub hx hb dX2_timesOfFirstTwo_44 ?_
    refine W.eq (congrArg (fun z => F0 m _ ls (.long z :: _)) (show lI ((((((R2 i).toInt) - z).tmod 469762049) * 115990628) % (469762049 : Int)) - lI 469762049 = lI (((((((R2 i).toInt) - z).tmod 469762049) * 115990628) % (469762049 : Int)) - 469762049) from lI_sub ((((((R2 i).toInt) - z).tmod 469762049) * 115990628) % (469762049 : Int)) 469762049)) ?_
    refine lv_goto (tgt := 50) hx hb dX2_timesOfFirstTwo_45 (by decide) ?_
    have hP9 : va_P (dC, dI) vwCl [(sm, .inr (1, [.ref so])), (so, .inl (cO, 3, .inr (.inr (.inr (.inr g))))), (r0, .inl (cI, M, .inl R0)), (r1, .inl (cI, M, .inl R1)), (r2, .inl (cI, M, .inl R2))] H := hP.sub [0, 1, 2, 3, 4] rfl
    have hD9 : va_D A [(sm, .inr (1, [.ref so])), (so, .inl (cO, 3, .inr (.inr (.inr (.inr g))))), (r0, .inl (cI, M, .inl R0)), (r1, .inl (cI, M, .inl R1)), (r2, .inl (cI, M, .inl R2))] := hD.sub [0, 1, 2, 3, 4] (by decide) rfl
    exact W.lret (v := lI (((((((R2 i).toInt) - z).tmod 469762049) * 115990628) % (469762049 : Int)) - 469762049)) hx hb hr (fun t ht hW => ⟨⟨lI (((((((R2 i).toInt) - z).tmod 469762049) * 115990628) % (469762049 : Int)) - 469762049), (), rfl, by unfold tft; rw [if_pos (by omega)], by rw [ht]; exact hP9, hD9⟩, hS.F ht⟩) hS.2.2 dX2_timesOfFirstTwo_50

abbrev q_X2_lowest64Bits (dC : Nat → ClassId) (dI : Nat → Nat → Nat) (cI cO : ClassId) (sm so r0 r1 r2 : Nat) (g : Nat → Option Nat) (R0 R1 R2 : Nat → Int32) (M i : Nat) (A : Nat → Prop) : Array Value → State → Outcome → State → Prop := va_Ql (fun (r : Int64) (u : Unit) => r = lI (lowZ (R0 i).toInt (R1 i).toInt (R2 i).toInt)) (fun u t => va_P (dC, dI) vwCl [(sm, .inr (1, [.ref so])), (so, .inl (cO, 3, .inr (.inr (.inr (.inr g))))), (r0, .inl (cI, M, .inl R0)), (r1, .inl (cI, M, .inl R1)), (r2, .inl (cI, M, .inl R2))] t.heap ∧ va_D A [(sm, .inr (1, [.ref so])), (so, .inl (cO, 3, .inr (.inr (.inr (.inr g))))), (r0, .inl (cI, M, .inl R0)), (r1, .inl (cI, M, .inl R1)), (r2, .inl (cI, M, .inl R2))]) A
set_option maxHeartbeats 4000000 in
set_option maxRecDepth 100000 in
theorem c_X2_lowest64Bits (l : Launch) (dC : Nat → ClassId) (dI : Nat → Nat → Nat) (cI cO : ClassId) (sm so r0 r1 r2 : Nat) (g : Nat → Option Nat) (R0 R1 R2 : Nat → Int32) (M i : Nat) (sz : Nat) (hg0 : g 0 = some r0) (hg1 : g 1 = some r1) (hg2 : g 2 = some r2) (hi : i < M) (hM : M ≤ 512) : Met l yX2_lowest64Bits wsX2_lowest64Bits ({ frames := 2, cells := 0, slots := 0, locals := 51 }) (va_Pc [.ref sm, .int (nI i)] (fun U => U.heap.size = sz ∧ va_P (dC, dI) vwCl [(sm, .inr (1, [.ref so])), (so, .inl (cO, 3, .inr (.inr (.inr (.inr g))))), (r0, .inl (cI, M, .inl R0)), (r1, .inl (cI, M, .inl R1)), (r2, .inl (cI, M, .inl R2))] U.heap ∧ va_K (dC, dI) vwCl [(cI, .int), (cO, .array .int)] U ∧ va_D (fun _ => True) [(sm, .inr (1, [.ref so])), (so, .inl (cO, 3, .inr (.inr (.inr (.inr g))))), (r0, .inl (cI, M, .inl R0)), (r1, .inl (cI, M, .inl R1)), (r2, .inl (cI, M, .inl R2))])) (q_X2_lowest64Bits dC dI cI cO sm so r0 r1 r2 g R0 R1 R2 M i (va_A [(sm, .inr (1, [.ref so])), (so, .inl (cO, 3, .inr (.inr (.inr (.inr g))))), (r0, .inl (cI, M, .inl R0)), (r1, .inl (cI, M, .inl R1)), (r2, .inl (cI, M, .inl R2))] sz)) 0 0 (va_A [(sm, .inr (1, [.ref so])), (so, .inl (cO, 3, .inr (.inr (.inr (.inr g))))), (r0, .inl (cI, M, .inl R0)), (r1, .inl (cI, M, .inl R1)), (r2, .inl (cI, M, .inl R2))] sz) := by
  refine Met.ofW (cc := cX2_lowest64Bits) (maxL := 4) (ret := (some .long)) (by decide) rfl ?_
  intro p e s m args below meth c s₁ B hml hv
  obtain ⟨rfl, hsz, hP, hK, hD0⟩ := hv
  have hx := B.exec
  have hb := B.bytes
  have hr := B.returns
  have hts := atoms_spec (ws := wsX2_lowest64Bits) B.pre
  have hown : s.vm.findClass RX2 = some m.cls := findClass_of_methodNamed B.named
  have hlocks := B.notSynchronized
  subst hsz
  have hD := hD0.self (sz := s.heap.size)
  generalize hAe : va_A [(sm, .inr (1, [.ref so])), (so, .inl (cO, 3, .inr (.inr (.inr (.inr g))))), (r0, .inl (cI, M, .inl R0)), (r1, .inl (cI, M, .inl R1)), (r2, .inl (cI, M, .inl R2))] s.heap.size = A at hD ⊢
  have hA : ∀ q : Nat, s.heap.size ≤ q → A q := fun q h => by rw [← hAe]; exact Or.inr h
  have hS : va_S A s.heap s.heap [] := va_S.rf
  have hP : va_P (dC, dI) vwCl [(sm, .inr (1, [.ref so])), (so, .inl (cO, 3, .inr (.inr (.inr (.inr g))))), (r0, .inl (cI, M, .inl R0)), (r1, .inl (cI, M, .inl R1)), (r2, .inl (cI, M, .inl R2))] s.heap := hP
  have hl := lv_entry (([.ref sm, .int (nI i)] : List Value)) (n := 4) (Nat.le_of_ble_eq_true rfl)
  rw [lg_entry_eq]
  generalize (lg_sl (([.ref sm, .int (nI i)] : List Value)) ++ List.replicate (4 - (lg_sl (([.ref sm, .int (nI i)] : List Value))).length) Slot.unset).toArray = ls at hl ⊢
  have hl : lv_has ls 4 [(0, .ref sm), (1, .int (nI i))] := hl
  obtain ⟨H, hHe⟩ : ∃ H : Heap, H = s.heap := ⟨_, rfl⟩
  rw [← hHe] at hP
  have hS : va_S A s.heap H [] := by rw [hHe]; exact hS
  obtain ⟨locs, hlo⟩ : ∃ L : List Loc, L = [] := ⟨_, rfl⟩
  rw [← hlo] at hS ⊢
  rw [← hHe]
  have hm := mft_b (R0 i) (R1 i)
  refine lv_aload_n hx hb dX2_lowest64Bits_0 rfl (lv_at hl 0 rfl) ?_
  refine lv_iload_n hx hb dX2_lowest64Bits_1 rfl (lv_at hl 1 rfl) ?_
  have hPc := hP.sub (ws' := [(sm, .inr (1, [.ref so])), (so, .inl (cO, 3, .inr (.inr (.inr (.inr g))))), (r0, .inl (cI, M, .inl R0)), (r1, .inl (cI, M, .inl R1)), (r2, .inl (cI, M, .inl R2))]) [0, 1, 2, 3, 4] rfl
  have hDc := hD.sub (ws' := [(sm, .inr (1, [.ref so])), (so, .inl (cO, 3, .inr (.inr (.inr (.inr g))))), (r0, .inl (cI, M, .inl R0)), (r1, .inl (cI, M, .inl R1)), (r2, .inl (cI, M, .inl R2))]) [0, 1, 2, 3, 4] (by decide) rfl
  have hKc := hK.sub (tys' := [(cI, .int), (cO, .array .int)]) [0, 1] rfl
  have hFc := va_free (wc := [(sm, .inr (1, [.ref so])), (so, .inl (cO, 3, .inr (.inr (.inr (.inr g))))), (r0, .inl (cI, M, .inl R0)), (r1, .inl (cI, M, .inl R1)), (r2, .inl (cI, M, .inl R2))]) hD hS hA [0, 1, 2, 3, 4] rfl
  refine va_calll (va_runV (As := [.int (nI i)]) (rest := []) ⟨hx, hb, hml, hown, hts⟩ (c_X2_moduloFirstTwo l dC dI cI cO sm so r0 r1 r2 g R0 R1 R2 M  i  H.size hg0 hg1 hg2 (by omega) (by omega)) (cwV 1 hts gX2_lowest64Bits_X2_moduloFirstTwo rfl rfl rfl (by decide +kernel) ⟨Nat.le_of_ble_eq_true rfl, Nat.le_of_ble_eq_true rfl⟩) ⟨fun a U g mk q => by obtain ⟨q0, q1, qP, qK, qD⟩ := q; exact ⟨q0, q1, qP, va_K.moved (u := U) (U := U.calling g mk a) (Vm.Alike.refl U.vm) qK, qD⟩, va_recv hKc hPc (ci := 1) (q0 := 0) rfl rfl, fun U hU hW => ⟨rfl, by rw [hU], by rw [hU]; exact hPc, va_K.moved hW.alike hKc, hDc.weaken (fun _ _ _ _ => trivial)⟩⟩ rfl rfl hl.1 rfl (lv_room (Nat.le_of_ble_eq_true rfl)) dX2_lowest64Bits_2 ⟨Nat.le_of_ble_eq_true rfl, Nat.le_of_ble_eq_true rfl⟩) hS (fun q _ h => hFc q h) hFc (fun r9 u9 t9 H1 locs ht hvm hw hB hz1 hk1 hS => ?_)
  obtain ⟨hP1, hD1⟩ := hB
  rw [ht] at hP1
  try dsimp only at hw
  obtain ⟨hP, hD⟩ := va_join (wr := []) (w1 := [(sm, .inr (1, [.ref so])), (so, .inl (cO, 3, .inr (.inr (.inr (.inr g))))), (r0, .inl (cI, M, .inl R0)), (r1, .inl (cI, M, .inl R1)), (r2, .inl (cI, M, .inl R2))]) hP hD [0, 1, 2, 3, 4] [] rfl rfl (by decide) (by decide) hk1 hFc hP1 hD1
  generalize H1 = H at hP hS ⊢
  have hP : va_P (dC, dI) vwCl [(sm, .inr (1, [.ref so])), (so, .inl (cO, 3, .inr (.inr (.inr (.inr g))))), (r0, .inl (cI, M, .inl R0)), (r1, .inl (cI, M, .inl R1)), (r2, .inl (cI, M, .inl R2))] H := hP
  have hD : va_D A [(sm, .inr (1, [.ref so])), (so, .inl (cO, 3, .inr (.inr (.inr (.inr g))))), (r0, .inl (cI, M, .inl R0)), (r1, .inl (cI, M, .inl R1)), (r2, .inl (cI, M, .inl R2))] := hD
  clear hPc hDc hKc hFc hP1 hD1 hk1 hz1 hvm ht
  subst hw
  refine lv_lstore_n (lv' := [(2, .long (lI (mft (R0 i).toInt (R1 i).toInt))), (0, .ref sm), (1, .int (nI i))]) hx hb dX2_lowest64Bits_5 rfl hl (by decide) rfl (fun ls hl => ?_)
  refine lv_lload_n hx hb dX2_lowest64Bits_6 rfl (lv_at hl 0 rfl) ?_
  refine lv_ldc2 (own := RX2) (v := lI (167477612308856833)) hx hb hown (hts (.constantLong RX2 27 (167477612308856833)) (by decide +kernel)) dX2_lowest64Bits_7 ?_
  refine lv_aload_n hx hb dX2_lowest64Bits_10 rfl (lv_at hl 1 rfl) ?_
  refine lv_iload_n hx hb dX2_lowest64Bits_11 rfl (lv_at hl 2 rfl) ?_
  refine lv_lload_n hx hb dX2_lowest64Bits_12 rfl (lv_at hl 0 rfl) ?_
  have hPc := hP.sub (ws' := [(sm, .inr (1, [.ref so])), (so, .inl (cO, 3, .inr (.inr (.inr (.inr g))))), (r0, .inl (cI, M, .inl R0)), (r1, .inl (cI, M, .inl R1)), (r2, .inl (cI, M, .inl R2))]) [0, 1, 2, 3, 4] rfl
  have hDc := hD.sub (ws' := [(sm, .inr (1, [.ref so])), (so, .inl (cO, 3, .inr (.inr (.inr (.inr g))))), (r0, .inl (cI, M, .inl R0)), (r1, .inl (cI, M, .inl R1)), (r2, .inl (cI, M, .inl R2))]) [0, 1, 2, 3, 4] (by decide) rfl
  have hKc := hK.sub (tys' := [(cI, .int), (cO, .array .int)]) [0, 1] rfl
  have hFc := va_free (wc := [(sm, .inr (1, [.ref so])), (so, .inl (cO, 3, .inr (.inr (.inr (.inr g))))), (r0, .inl (cI, M, .inl R0)), (r1, .inl (cI, M, .inl R1)), (r2, .inl (cI, M, .inl R2))]) hD hS hA [0, 1, 2, 3, 4] rfl
  refine va_calll (va_runV (As := [.int (nI i), .long (lI (mft (R0 i).toInt (R1 i).toInt))]) (rest := [.long (lI 167477612308856833), .long (lI (mft (R0 i).toInt (R1 i).toInt))]) ⟨hx, hb, hml, hown, hts⟩ (c_X2_timesOfFirstTwo l dC dI cI cO sm so r0 r1 r2 g R0 R1 R2 M  i (mft (R0 i).toInt (R1 i).toInt) H.size hg0 hg1 hg2 (by omega) (by omega) (by omega) (by omega)) (cwV 2 hts gX2_lowest64Bits_X2_timesOfFirstTwo rfl rfl rfl (by decide +kernel) ⟨Nat.le_of_ble_eq_true rfl, Nat.le_of_ble_eq_true rfl⟩) ⟨fun a U g mk q => by obtain ⟨q0, q1, qP, qK, qD⟩ := q; exact ⟨q0, q1, qP, va_K.moved (u := U) (U := U.calling g mk a) (Vm.Alike.refl U.vm) qK, qD⟩, va_recv hKc hPc (ci := 1) (q0 := 0) rfl rfl, fun U hU hW => ⟨rfl, by rw [hU], by rw [hU]; exact hPc, va_K.moved hW.alike hKc, hDc.weaken (fun _ _ _ _ => trivial)⟩⟩ rfl rfl hl.1 rfl (lv_room (Nat.le_of_ble_eq_true rfl)) dX2_lowest64Bits_13 ⟨Nat.le_of_ble_eq_true rfl, Nat.le_of_ble_eq_true rfl⟩) hS (fun q _ h => hFc q h) hFc (fun r9 u9 t9 H1 locs ht hvm hw hB hz1 hk1 hS => ?_)
  obtain ⟨hP1, hD1⟩ := hB
  rw [ht] at hP1
  try dsimp only at hw
  obtain ⟨hP, hD⟩ := va_join (wr := []) (w1 := [(sm, .inr (1, [.ref so])), (so, .inl (cO, 3, .inr (.inr (.inr (.inr g))))), (r0, .inl (cI, M, .inl R0)), (r1, .inl (cI, M, .inl R1)), (r2, .inl (cI, M, .inl R2))]) hP hD [0, 1, 2, 3, 4] [] rfl rfl (by decide) (by decide) hk1 hFc hP1 hD1
  generalize H1 = H at hP hS ⊢
  have hP : va_P (dC, dI) vwCl [(sm, .inr (1, [.ref so])), (so, .inl (cO, 3, .inr (.inr (.inr (.inr g))))), (r0, .inl (cI, M, .inl R0)), (r1, .inl (cI, M, .inl R1)), (r2, .inl (cI, M, .inl R2))] H := hP
  have hD : va_D A [(sm, .inr (1, [.ref so])), (so, .inl (cO, 3, .inr (.inr (.inr (.inr g))))), (r0, .inl (cI, M, .inl R0)), (r1, .inl (cI, M, .inl R1)), (r2, .inl (cI, M, .inl R2))] := hD
  clear hPc hDc hKc hFc hP1 hD1 hk1 hz1 hvm ht
  subst hw
  refine lv_lmul hx hb dX2_lowest64Bits_16 ?_
  refine W.eq (congrArg (fun z => F0 m _ ls (.long z :: _)) (show lI 167477612308856833 * lI (tft (R2 i).toInt (mft (R0 i).toInt (R1 i).toInt)) = lI (167477612308856833 * (tft (R2 i).toInt (mft (R0 i).toInt (R1 i).toInt))) from lI_mul 167477612308856833 (tft (R2 i).toInt (mft (R0 i).toInt (R1 i).toInt)))) ?_
  refine lv_ladd hx hb dX2_lowest64Bits_17 ?_
  refine W.eq (congrArg (fun z => F0 m _ ls (.long z :: _)) (show lI (mft (R0 i).toInt (R1 i).toInt) + lI (167477612308856833 * (tft (R2 i).toInt (mft (R0 i).toInt (R1 i).toInt))) = lI ((mft (R0 i).toInt (R1 i).toInt) + (167477612308856833 * (tft (R2 i).toInt (mft (R0 i).toInt (R1 i).toInt)))) from lI_add (mft (R0 i).toInt (R1 i).toInt) (167477612308856833 * (tft (R2 i).toInt (mft (R0 i).toInt (R1 i).toInt))))) ?_
  have hP9 : va_P (dC, dI) vwCl [(sm, .inr (1, [.ref so])), (so, .inl (cO, 3, .inr (.inr (.inr (.inr g))))), (r0, .inl (cI, M, .inl R0)), (r1, .inl (cI, M, .inl R1)), (r2, .inl (cI, M, .inl R2))] H := hP.sub [0, 1, 2, 3, 4] rfl
  have hD9 : va_D A [(sm, .inr (1, [.ref so])), (so, .inl (cO, 3, .inr (.inr (.inr (.inr g))))), (r0, .inl (cI, M, .inl R0)), (r1, .inl (cI, M, .inl R1)), (r2, .inl (cI, M, .inl R2))] := hD.sub [0, 1, 2, 3, 4] (by decide) rfl
  exact W.lret (v := lI ((mft (R0 i).toInt (R1 i).toInt) + (167477612308856833 * (tft (R2 i).toInt (mft (R0 i).toInt (R1 i).toInt))))) hx hb hr (fun t ht hW => ⟨⟨lI ((mft (R0 i).toInt (R1 i).toInt) + (167477612308856833 * (tft (R2 i).toInt (mft (R0 i).toInt (R1 i).toInt)))), (), rfl, rfl, by rw [ht]; exact hP9, hD9⟩, hS.F ht⟩) hS.2.2 dX2_lowest64Bits_18

abbrev q_X2_bitsAbove64 (dC : Nat → ClassId) (dI : Nat → Nat → Nat) (cI cO : ClassId) (sm so r0 r1 r2 : Nat) (g : Nat → Option Nat) (R0 R1 R2 : Nat → Int32) (M i : Nat) (A : Nat → Prop) : Array Value → State → Outcome → State → Prop := va_Qi (fun (r : Int32) (u : Unit) => r = iI (highZ (R0 i).toInt (R1 i).toInt (R2 i).toInt)) (fun u t => va_P (dC, dI) vwCl [(sm, .inr (1, [.ref so])), (so, .inl (cO, 3, .inr (.inr (.inr (.inr g))))), (r0, .inl (cI, M, .inl R0)), (r1, .inl (cI, M, .inl R1)), (r2, .inl (cI, M, .inl R2))] t.heap ∧ va_D A [(sm, .inr (1, [.ref so])), (so, .inl (cO, 3, .inr (.inr (.inr (.inr g))))), (r0, .inl (cI, M, .inl R0)), (r1, .inl (cI, M, .inl R1)), (r2, .inl (cI, M, .inl R2))]) A
set_option maxHeartbeats 4000000 in
set_option maxRecDepth 100000 in
theorem c_X2_bitsAbove64 (l : Launch) (dC : Nat → ClassId) (dI : Nat → Nat → Nat) (cI cO : ClassId) (sm so r0 r1 r2 : Nat) (g : Nat → Option Nat) (R0 R1 R2 : Nat → Int32) (M i : Nat) (sz : Nat) (hg0 : g 0 = some r0) (hg1 : g 1 = some r1) (hg2 : g 2 = some r2) (hi : i < M) (hM : M ≤ 512) : Met l yX2_bitsAbove64 wsX2_bitsAbove64 ({ frames := 2, cells := 0, slots := 0, locals := 51 }) (va_Pc [.ref sm, .int (nI i)] (fun U => U.heap.size = sz ∧ va_P (dC, dI) vwCl [(sm, .inr (1, [.ref so])), (so, .inl (cO, 3, .inr (.inr (.inr (.inr g))))), (r0, .inl (cI, M, .inl R0)), (r1, .inl (cI, M, .inl R1)), (r2, .inl (cI, M, .inl R2))] U.heap ∧ va_K (dC, dI) vwCl [(cI, .int), (cO, .array .int)] U ∧ va_D (fun _ => True) [(sm, .inr (1, [.ref so])), (so, .inl (cO, 3, .inr (.inr (.inr (.inr g))))), (r0, .inl (cI, M, .inl R0)), (r1, .inl (cI, M, .inl R1)), (r2, .inl (cI, M, .inl R2))])) (q_X2_bitsAbove64 dC dI cI cO sm so r0 r1 r2 g R0 R1 R2 M i (va_A [(sm, .inr (1, [.ref so])), (so, .inl (cO, 3, .inr (.inr (.inr (.inr g))))), (r0, .inl (cI, M, .inl R0)), (r1, .inl (cI, M, .inl R1)), (r2, .inl (cI, M, .inl R2))] sz)) 0 0 (va_A [(sm, .inr (1, [.ref so])), (so, .inl (cO, 3, .inr (.inr (.inr (.inr g))))), (r0, .inl (cI, M, .inl R0)), (r1, .inl (cI, M, .inl R1)), (r2, .inl (cI, M, .inl R2))] sz) := by
  refine Met.ofW (cc := cX2_bitsAbove64) (maxL := 10) (ret := (some .int)) (by decide) rfl ?_
  intro p e s m args below meth c s₁ B hml hv
  obtain ⟨rfl, hsz, hP, hK, hD0⟩ := hv
  have hx := B.exec
  have hb := B.bytes
  have hr := B.returns
  have hts := atoms_spec (ws := wsX2_bitsAbove64) B.pre
  have hown : s.vm.findClass RX2 = some m.cls := findClass_of_methodNamed B.named
  have hlocks := B.notSynchronized
  subst hsz
  have hD := hD0.self (sz := s.heap.size)
  generalize hAe : va_A [(sm, .inr (1, [.ref so])), (so, .inl (cO, 3, .inr (.inr (.inr (.inr g))))), (r0, .inl (cI, M, .inl R0)), (r1, .inl (cI, M, .inl R1)), (r2, .inl (cI, M, .inl R2))] s.heap.size = A at hD ⊢
  have hA : ∀ q : Nat, s.heap.size ≤ q → A q := fun q h => by rw [← hAe]; exact Or.inr h
  have hS : va_S A s.heap s.heap [] := va_S.rf
  have hP : va_P (dC, dI) vwCl [(sm, .inr (1, [.ref so])), (so, .inl (cO, 3, .inr (.inr (.inr (.inr g))))), (r0, .inl (cI, M, .inl R0)), (r1, .inl (cI, M, .inl R1)), (r2, .inl (cI, M, .inl R2))] s.heap := hP
  have hl := lv_entry (([.ref sm, .int (nI i)] : List Value)) (n := 10) (Nat.le_of_ble_eq_true rfl)
  rw [lg_entry_eq]
  generalize (lg_sl (([.ref sm, .int (nI i)] : List Value)) ++ List.replicate (10 - (lg_sl (([.ref sm, .int (nI i)] : List Value))).length) Slot.unset).toArray = ls at hl ⊢
  have hl : lv_has ls 10 [(0, .ref sm), (1, .int (nI i))] := hl
  obtain ⟨H, hHe⟩ : ∃ H : Heap, H = s.heap := ⟨_, rfl⟩
  rw [← hHe] at hP
  have hS : va_S A s.heap H [] := by rw [hHe]; exact hS
  obtain ⟨locs, hlo⟩ : ∃ L : List Loc, L = [] := ⟨_, rfl⟩
  rw [← hlo] at hS ⊢
  rw [← hHe]
  have hm := mft_b (R0 i) (R1 i)
  have ht := tft_b (R2 i).toInt (mft (R0 i).toInt (R1 i).toInt)
  refine lv_aload_n hx hb dX2_bitsAbove64_0 rfl (lv_at hl 0 rfl) ?_
  refine lv_iload_n hx hb dX2_bitsAbove64_1 rfl (lv_at hl 1 rfl) ?_
  have hPc := hP.sub (ws' := [(sm, .inr (1, [.ref so])), (so, .inl (cO, 3, .inr (.inr (.inr (.inr g))))), (r0, .inl (cI, M, .inl R0)), (r1, .inl (cI, M, .inl R1)), (r2, .inl (cI, M, .inl R2))]) [0, 1, 2, 3, 4] rfl
  have hDc := hD.sub (ws' := [(sm, .inr (1, [.ref so])), (so, .inl (cO, 3, .inr (.inr (.inr (.inr g))))), (r0, .inl (cI, M, .inl R0)), (r1, .inl (cI, M, .inl R1)), (r2, .inl (cI, M, .inl R2))]) [0, 1, 2, 3, 4] (by decide) rfl
  have hKc := hK.sub (tys' := [(cI, .int), (cO, .array .int)]) [0, 1] rfl
  have hFc := va_free (wc := [(sm, .inr (1, [.ref so])), (so, .inl (cO, 3, .inr (.inr (.inr (.inr g))))), (r0, .inl (cI, M, .inl R0)), (r1, .inl (cI, M, .inl R1)), (r2, .inl (cI, M, .inl R2))]) hD hS hA [0, 1, 2, 3, 4] rfl
  refine va_calll (va_runV (As := [.int (nI i)]) (rest := []) ⟨hx, hb, hml, hown, hts⟩ (c_X2_moduloFirstTwo l dC dI cI cO sm so r0 r1 r2 g R0 R1 R2 M  i  H.size hg0 hg1 hg2 (by omega) (by omega)) (cwV 1 hts gX2_bitsAbove64_X2_moduloFirstTwo rfl rfl rfl (by decide +kernel) ⟨Nat.le_of_ble_eq_true rfl, Nat.le_of_ble_eq_true rfl⟩) ⟨fun a U g mk q => by obtain ⟨q0, q1, qP, qK, qD⟩ := q; exact ⟨q0, q1, qP, va_K.moved (u := U) (U := U.calling g mk a) (Vm.Alike.refl U.vm) qK, qD⟩, va_recv hKc hPc (ci := 1) (q0 := 0) rfl rfl, fun U hU hW => ⟨rfl, by rw [hU], by rw [hU]; exact hPc, va_K.moved hW.alike hKc, hDc.weaken (fun _ _ _ _ => trivial)⟩⟩ rfl rfl hl.1 rfl (lv_room (Nat.le_of_ble_eq_true rfl)) dX2_bitsAbove64_2 ⟨Nat.le_of_ble_eq_true rfl, Nat.le_of_ble_eq_true rfl⟩) hS (fun q _ h => hFc q h) hFc (fun r9 u9 t9 H1 locs ht hvm hw hB hz1 hk1 hS => ?_)
  obtain ⟨hP1, hD1⟩ := hB
  rw [ht] at hP1
  try dsimp only at hw
  obtain ⟨hP, hD⟩ := va_join (wr := []) (w1 := [(sm, .inr (1, [.ref so])), (so, .inl (cO, 3, .inr (.inr (.inr (.inr g))))), (r0, .inl (cI, M, .inl R0)), (r1, .inl (cI, M, .inl R1)), (r2, .inl (cI, M, .inl R2))]) hP hD [0, 1, 2, 3, 4] [] rfl rfl (by decide) (by decide) hk1 hFc hP1 hD1
  generalize H1 = H at hP hS ⊢
  have hP : va_P (dC, dI) vwCl [(sm, .inr (1, [.ref so])), (so, .inl (cO, 3, .inr (.inr (.inr (.inr g))))), (r0, .inl (cI, M, .inl R0)), (r1, .inl (cI, M, .inl R1)), (r2, .inl (cI, M, .inl R2))] H := hP
  have hD : va_D A [(sm, .inr (1, [.ref so])), (so, .inl (cO, 3, .inr (.inr (.inr (.inr g))))), (r0, .inl (cI, M, .inl R0)), (r1, .inl (cI, M, .inl R1)), (r2, .inl (cI, M, .inl R2))] := hD
  clear hPc hDc hKc hFc hP1 hD1 hk1 hz1 hvm ht
  subst hw
  refine lv_lstore_n (lv' := [(2, .long (lI (mft (R0 i).toInt (R1 i).toInt))), (0, .ref sm), (1, .int (nI i))]) hx hb dX2_bitsAbove64_5 rfl hl (by decide) rfl (fun ls hl => ?_)
  refine lv_aload_n hx hb dX2_bitsAbove64_6 rfl (lv_at hl 1 rfl) ?_
  refine lv_iload_n hx hb dX2_bitsAbove64_7 rfl (lv_at hl 2 rfl) ?_
  refine lv_lload_n hx hb dX2_bitsAbove64_8 rfl (lv_at hl 0 rfl) ?_
  have hPc := hP.sub (ws' := [(sm, .inr (1, [.ref so])), (so, .inl (cO, 3, .inr (.inr (.inr (.inr g))))), (r0, .inl (cI, M, .inl R0)), (r1, .inl (cI, M, .inl R1)), (r2, .inl (cI, M, .inl R2))]) [0, 1, 2, 3, 4] rfl
  have hDc := hD.sub (ws' := [(sm, .inr (1, [.ref so])), (so, .inl (cO, 3, .inr (.inr (.inr (.inr g))))), (r0, .inl (cI, M, .inl R0)), (r1, .inl (cI, M, .inl R1)), (r2, .inl (cI, M, .inl R2))]) [0, 1, 2, 3, 4] (by decide) rfl
  have hKc := hK.sub (tys' := [(cI, .int), (cO, .array .int)]) [0, 1] rfl
  have hFc := va_free (wc := [(sm, .inr (1, [.ref so])), (so, .inl (cO, 3, .inr (.inr (.inr (.inr g))))), (r0, .inl (cI, M, .inl R0)), (r1, .inl (cI, M, .inl R1)), (r2, .inl (cI, M, .inl R2))]) hD hS hA [0, 1, 2, 3, 4] rfl
  refine va_calll (va_runV (As := [.int (nI i), .long (lI (mft (R0 i).toInt (R1 i).toInt))]) (rest := []) ⟨hx, hb, hml, hown, hts⟩ (c_X2_timesOfFirstTwo l dC dI cI cO sm so r0 r1 r2 g R0 R1 R2 M  i (mft (R0 i).toInt (R1 i).toInt) H.size hg0 hg1 hg2 (by omega) (by omega) (by omega) (by omega)) (cwV 2 hts gX2_bitsAbove64_X2_timesOfFirstTwo rfl rfl rfl (by decide +kernel) ⟨Nat.le_of_ble_eq_true rfl, Nat.le_of_ble_eq_true rfl⟩) ⟨fun a U g mk q => by obtain ⟨q0, q1, qP, qK, qD⟩ := q; exact ⟨q0, q1, qP, va_K.moved (u := U) (U := U.calling g mk a) (Vm.Alike.refl U.vm) qK, qD⟩, va_recv hKc hPc (ci := 1) (q0 := 0) rfl rfl, fun U hU hW => ⟨rfl, by rw [hU], by rw [hU]; exact hPc, va_K.moved hW.alike hKc, hDc.weaken (fun _ _ _ _ => trivial)⟩⟩ rfl rfl hl.1 rfl (lv_room (Nat.le_of_ble_eq_true rfl)) dX2_bitsAbove64_9 ⟨Nat.le_of_ble_eq_true rfl, Nat.le_of_ble_eq_true rfl⟩) hS (fun q _ h => hFc q h) hFc (fun r9 u9 t9 H1 locs ht hvm hw hB hz1 hk1 hS => ?_)
  obtain ⟨hP1, hD1⟩ := hB
  rw [ht] at hP1
  try dsimp only at hw
  obtain ⟨hP, hD⟩ := va_join (wr := []) (w1 := [(sm, .inr (1, [.ref so])), (so, .inl (cO, 3, .inr (.inr (.inr (.inr g))))), (r0, .inl (cI, M, .inl R0)), (r1, .inl (cI, M, .inl R1)), (r2, .inl (cI, M, .inl R2))]) hP hD [0, 1, 2, 3, 4] [] rfl rfl (by decide) (by decide) hk1 hFc hP1 hD1
  generalize H1 = H at hP hS ⊢
  have hP : va_P (dC, dI) vwCl [(sm, .inr (1, [.ref so])), (so, .inl (cO, 3, .inr (.inr (.inr (.inr g))))), (r0, .inl (cI, M, .inl R0)), (r1, .inl (cI, M, .inl R1)), (r2, .inl (cI, M, .inl R2))] H := hP
  have hD : va_D A [(sm, .inr (1, [.ref so])), (so, .inl (cO, 3, .inr (.inr (.inr (.inr g))))), (r0, .inl (cI, M, .inl R0)), (r1, .inl (cI, M, .inl R1)), (r2, .inl (cI, M, .inl R2))] := hD
  clear hPc hDc hKc hFc hP1 hD1 hk1 hz1 hvm ht
  subst hw
  refine lv_lstore (lv' := [(4, .long (lI (tft (R2 i).toInt (mft (R0 i).toInt (R1 i).toInt)))), (2, .long (lI (mft (R0 i).toInt (R1 i).toInt))), (0, .ref sm), (1, .int (nI i))]) hx hb dX2_bitsAbove64_12 hl (by decide) rfl (fun ls hl => ?_)
  refine lv_lload_n hx hb dX2_bitsAbove64_14 rfl (lv_at hl 1 rfl) ?_
  refine lv_ldc2 (own := RX2) (v := lI (1166016513)) hx hb hown (hts (.constantLong RX2 33 (1166016513)) (by decide +kernel)) dX2_bitsAbove64_15 ?_
  refine lv_lload hx hb dX2_bitsAbove64_18 (lv_at hl 0 rfl) ?_
  refine lv_lmul hx hb dX2_bitsAbove64_20 ?_
  refine W.eq (congrArg (fun z => F0 m _ ls (.long z :: _)) (show lI 1166016513 * lI (tft (R2 i).toInt (mft (R0 i).toInt (R1 i).toInt)) = lI (1166016513 * (tft (R2 i).toInt (mft (R0 i).toInt (R1 i).toInt))) from lI_mul 1166016513 (tft (R2 i).toInt (mft (R0 i).toInt (R1 i).toInt)))) ?_
  refine lv_ladd hx hb dX2_bitsAbove64_21 ?_
  refine W.eq (congrArg (fun z => F0 m _ ls (.long z :: _)) (show lI (mft (R0 i).toInt (R1 i).toInt) + lI (1166016513 * (tft (R2 i).toInt (mft (R0 i).toInt (R1 i).toInt))) = lI ((mft (R0 i).toInt (R1 i).toInt) + (1166016513 * (tft (R2 i).toInt (mft (R0 i).toInt (R1 i).toInt)))) from lI_add (mft (R0 i).toInt (R1 i).toInt) (1166016513 * (tft (R2 i).toInt (mft (R0 i).toInt (R1 i).toInt))))) ?_
  refine lv_lstore (lv' := [(6, .long (lI ((mft (R0 i).toInt (R1 i).toInt) + (1166016513 * (tft (R2 i).toInt (mft (R0 i).toInt (R1 i).toInt)))))), (4, .long (lI (tft (R2 i).toInt (mft (R0 i).toInt (R1 i).toInt)))), (2, .long (lI (mft (R0 i).toInt (R1 i).toInt))), (0, .ref sm), (1, .int (nI i))]) hx hb dX2_bitsAbove64_22 hl (by decide) rfl (fun ls hl => ?_)
  refine lv_ldc2 (own := RX2) (v := lI (38993920)) hx hb hown (hts (.constantLong RX2 35 (38993920)) (by decide +kernel)) dX2_bitsAbove64_24 ?_
  refine lv_lload hx hb dX2_bitsAbove64_27 (lv_at hl 1 rfl) ?_
  refine lv_lmul hx hb dX2_bitsAbove64_29 ?_
  refine W.eq (congrArg (fun z => F0 m _ ls (.long z :: _)) (show lI 38993920 * lI (tft (R2 i).toInt (mft (R0 i).toInt (R1 i).toInt)) = lI (38993920 * (tft (R2 i).toInt (mft (R0 i).toInt (R1 i).toInt))) from lI_mul 38993920 (tft (R2 i).toInt (mft (R0 i).toInt (R1 i).toInt)))) ?_
  refine lv_lstore (lv' := [(8, .long (lI (38993920 * (tft (R2 i).toInt (mft (R0 i).toInt (R1 i).toInt))))), (6, .long (lI ((mft (R0 i).toInt (R1 i).toInt) + (1166016513 * (tft (R2 i).toInt (mft (R0 i).toInt (R1 i).toInt)))))), (4, .long (lI (tft (R2 i).toInt (mft (R0 i).toInt (R1 i).toInt)))), (2, .long (lI (mft (R0 i).toInt (R1 i).toInt))), (0, .ref sm), (1, .int (nI i))]) hx hb dX2_bitsAbove64_30 hl (by decide) rfl (fun ls hl => ?_)
  refine lv_lload hx hb dX2_bitsAbove64_32 (lv_at hl 0 rfl) ?_
  refine lv_lload hx hb dX2_bitsAbove64_34 (lv_at hl 1 rfl) ?_
  refine lv_bipush (v := nI 32) hx hb dX2_bitsAbove64_36 (by decide) ?_
  refine lv_lshr (v := lI (((mft (R0 i).toInt (R1 i).toInt) + (1166016513 * (tft (R2 i).toInt (mft (R0 i).toInt (R1 i).toInt)))) / 2 ^ 32)) hx hb dX2_bitsAbove64_38 (lI_shr32 (by omega) (by omega)) ?_
  refine lv_ladd hx hb dX2_bitsAbove64_39 ?_
  refine W.eq (congrArg (fun z => F0 m _ ls (.long z :: _)) (show lI (38993920 * (tft (R2 i).toInt (mft (R0 i).toInt (R1 i).toInt))) + lI (((mft (R0 i).toInt (R1 i).toInt) + (1166016513 * (tft (R2 i).toInt (mft (R0 i).toInt (R1 i).toInt)))) / 2 ^ 32) = lI ((38993920 * (tft (R2 i).toInt (mft (R0 i).toInt (R1 i).toInt))) + (((mft (R0 i).toInt (R1 i).toInt) + (1166016513 * (tft (R2 i).toInt (mft (R0 i).toInt (R1 i).toInt)))) / 2 ^ 32)) from lI_add (38993920 * (tft (R2 i).toInt (mft (R0 i).toInt (R1 i).toInt))) (((mft (R0 i).toInt (R1 i).toInt) + (1166016513 * (tft (R2 i).toInt (mft (R0 i).toInt (R1 i).toInt)))) / 2 ^ 32))) ?_
  refine lv_bipush (v := nI 32) hx hb dX2_bitsAbove64_40 (by decide) ?_
  refine lv_lshr (v := lI (((38993920 * (tft (R2 i).toInt (mft (R0 i).toInt (R1 i).toInt))) + (((mft (R0 i).toInt (R1 i).toInt) + (1166016513 * (tft (R2 i).toInt (mft (R0 i).toInt (R1 i).toInt)))) / 2 ^ 32)) / 2 ^ 32)) hx hb dX2_bitsAbove64_42 (lI_shr32 (by omega) (by omega)) ?_
  refine lv_l2i (v := iI (((38993920 * (tft (R2 i).toInt (mft (R0 i).toInt (R1 i).toInt))) + (((mft (R0 i).toInt (R1 i).toInt) + (1166016513 * (tft (R2 i).toInt (mft (R0 i).toInt (R1 i).toInt)))) / 2 ^ 32)) / 2 ^ 32)) hx hb dX2_bitsAbove64_43 (lI_i (((38993920 * (tft (R2 i).toInt (mft (R0 i).toInt (R1 i).toInt))) + (((mft (R0 i).toInt (R1 i).toInt) + (1166016513 * (tft (R2 i).toInt (mft (R0 i).toInt (R1 i).toInt)))) / 2 ^ 32)) / 2 ^ 32)) ?_
  have hP9 : va_P (dC, dI) vwCl [(sm, .inr (1, [.ref so])), (so, .inl (cO, 3, .inr (.inr (.inr (.inr g))))), (r0, .inl (cI, M, .inl R0)), (r1, .inl (cI, M, .inl R1)), (r2, .inl (cI, M, .inl R2))] H := hP.sub [0, 1, 2, 3, 4] rfl
  have hD9 : va_D A [(sm, .inr (1, [.ref so])), (so, .inl (cO, 3, .inr (.inr (.inr (.inr g))))), (r0, .inl (cI, M, .inl R0)), (r1, .inl (cI, M, .inl R1)), (r2, .inl (cI, M, .inl R2))] := hD.sub [0, 1, 2, 3, 4] (by decide) rfl
  exact W.iret (v := iI (((38993920 * (tft (R2 i).toInt (mft (R0 i).toInt (R1 i).toInt))) + (((mft (R0 i).toInt (R1 i).toInt) + (1166016513 * (tft (R2 i).toInt (mft (R0 i).toInt (R1 i).toInt)))) / 2 ^ 32)) / 2 ^ 32)) hx hb hr (fun t ht hW => ⟨⟨iI (((38993920 * (tft (R2 i).toInt (mft (R0 i).toInt (R1 i).toInt))) + (((mft (R0 i).toInt (R1 i).toInt) + (1166016513 * (tft (R2 i).toInt (mft (R0 i).toInt (R1 i).toInt)))) / 2 ^ 32)) / 2 ^ 32), (), rfl, rfl, by rw [ht]; exact hP9, hD9⟩, hS.F ht⟩) hS.2.2 dX2_bitsAbove64_44

abbrev q_X2_cutInto (dC : Nat → ClassId) (dI : Nat → Nat → Nat) (cI cO : ClassId) (sm so r0 r1 r2 ra : Nat) (g : Nat → Option Nat) (R0 R1 R2 f : Nat → Int32) (M n : Nat) (A : Nat → Prop) : Array Value → State → Outcome → State → Prop := va_Qv (fun (u : Unit) => True) (fun u t => va_P (dC, dI) vwCl [(sm, .inr (1, [.ref so])), (so, .inl (cO, 3, .inr (.inr (.inr (.inr g))))), (r0, .inl (cI, M, .inl R0)), (r1, .inl (cI, M, .inl R1)), (r2, .inl (cI, M, .inl R2)), (ra, .inl (cI, 256, .inl (ctI f R0 R1 R2 n)))] t.heap ∧ va_D A [(sm, .inr (1, [.ref so])), (so, .inl (cO, 3, .inr (.inr (.inr (.inr g))))), (r0, .inl (cI, M, .inl R0)), (r1, .inl (cI, M, .inl R1)), (r2, .inl (cI, M, .inl R2)), (ra, .inl (cI, 256, .inl (ctI f R0 R1 R2 n)))]) A
set_option maxHeartbeats 4000000 in
set_option maxRecDepth 100000 in
theorem c_X2_cutInto (l : Launch) (dC : Nat → ClassId) (dI : Nat → Nat → Nat) (cI cO : ClassId) (sm so r0 r1 r2 ra : Nat) (g : Nat → Option Nat) (R0 R1 R2 f : Nat → Int32) (M n : Nat) (sz : Nat) (hg0 : g 0 = some r0) (hg1 : g 1 = some r1) (hg2 : g 2 = some r2) (hn : n ≤ M) (hn2 : n ≤ 256) (hM : M ≤ 512) : Met l yX2_cutInto wsX2_cutInto ({ frames := 3, cells := 0, slots := 0, locals := 74 }) (va_Pc [.ref sm, .ref ra, .int (nI n)] (fun U => U.heap.size = sz ∧ va_P (dC, dI) vwCl [(sm, .inr (1, [.ref so])), (so, .inl (cO, 3, .inr (.inr (.inr (.inr g))))), (r0, .inl (cI, M, .inl R0)), (r1, .inl (cI, M, .inl R1)), (r2, .inl (cI, M, .inl R2)), (ra, .inl (cI, 256, .inl f))] U.heap ∧ va_K (dC, dI) vwCl [(cI, .int), (cO, .array .int)] U ∧ va_D (fun _ => True) [(sm, .inr (1, [.ref so])), (so, .inl (cO, 3, .inr (.inr (.inr (.inr g))))), (r0, .inl (cI, M, .inl R0)), (r1, .inl (cI, M, .inl R1)), (r2, .inl (cI, M, .inl R2)), (ra, .inl (cI, 256, .inl f))])) (q_X2_cutInto dC dI cI cO sm so r0 r1 r2 ra g R0 R1 R2 f M n (va_A [(sm, .inr (1, [.ref so])), (so, .inl (cO, 3, .inr (.inr (.inr (.inr g))))), (r0, .inl (cI, M, .inl R0)), (r1, .inl (cI, M, .inl R1)), (r2, .inl (cI, M, .inl R2)), (ra, .inl (cI, 256, .inl f))] sz)) 0 0 (va_A [(sm, .inr (1, [.ref so])), (so, .inl (cO, 3, .inr (.inr (.inr (.inr g))))), (r0, .inl (cI, M, .inl R0)), (r1, .inl (cI, M, .inl R1)), (r2, .inl (cI, M, .inl R2)), (ra, .inl (cI, 256, .inl f))] sz) := by
  refine Met.ofW (cc := cX2_cutInto) (maxL := 4) (ret := none) (by decide) rfl ?_
  intro p e s m args below meth c s₁ B hml hv
  obtain ⟨rfl, hsz, hP, hK, hD0⟩ := hv
  have hx := B.exec
  have hb := B.bytes
  have hr := B.returns
  have hts := atoms_spec (ws := wsX2_cutInto) B.pre
  have hown : s.vm.findClass RX2 = some m.cls := findClass_of_methodNamed B.named
  have hlocks := B.notSynchronized
  subst hsz
  have hD := hD0.self (sz := s.heap.size)
  generalize hAe : va_A [(sm, .inr (1, [.ref so])), (so, .inl (cO, 3, .inr (.inr (.inr (.inr g))))), (r0, .inl (cI, M, .inl R0)), (r1, .inl (cI, M, .inl R1)), (r2, .inl (cI, M, .inl R2)), (ra, .inl (cI, 256, .inl f))] s.heap.size = A at hD ⊢
  have hA : ∀ q : Nat, s.heap.size ≤ q → A q := fun q h => by rw [← hAe]; exact Or.inr h
  have hS : va_S A s.heap s.heap [] := va_S.rf
  have hP : va_P (dC, dI) vwCl [(sm, .inr (1, [.ref so])), (so, .inl (cO, 3, .inr (.inr (.inr (.inr g))))), (r0, .inl (cI, M, .inl R0)), (r1, .inl (cI, M, .inl R1)), (r2, .inl (cI, M, .inl R2)), (ra, .inl (cI, 256, .inl f))] s.heap := hP
  have hl := lv_entry (([.ref sm, .ref ra, .int (nI n)] : List Value)) (n := 4) (Nat.le_of_ble_eq_true rfl)
  rw [lg_entry_eq]
  generalize (lg_sl (([.ref sm, .ref ra, .int (nI n)] : List Value)) ++ List.replicate (4 - (lg_sl (([.ref sm, .ref ra, .int (nI n)] : List Value))).length) Slot.unset).toArray = ls at hl ⊢
  have hl : lv_has ls 4 [(0, .ref sm), (1, .ref ra), (2, .int (nI n))] := hl
  obtain ⟨H, hHe⟩ : ∃ H : Heap, H = s.heap := ⟨_, rfl⟩
  rw [← hHe] at hP
  have hS : va_S A s.heap H [] := by rw [hHe]; exact hS
  obtain ⟨locs, hlo⟩ : ∃ L : List Loc, L = [] := ⟨_, rfl⟩
  rw [← hlo] at hS ⊢
  rw [← hHe]
  refine lv_iconst (v := nI 0) hx hb dX2_cutInto_0 (by decide) ?_
  rw [show f = ctI f R0 R1 R2 0 from (ctI_0 _ _ _ _).symm] at hP hD
  have hP : va_P (dC, dI) vwCl [(sm, .inr (1, [.ref so])), (so, .inl (cO, 3, .inr (.inr (.inr (.inr g))))), (r0, .inl (cI, M, .inl R0)), (r1, .inl (cI, M, .inl R1)), (r2, .inl (cI, M, .inl R2)), (ra, .inl (cI, 256, .inl (ctI f R0 R1 R2 0)))] H := hP
  have hD : va_D A [(sm, .inr (1, [.ref so])), (so, .inl (cO, 3, .inr (.inr (.inr (.inr g))))), (r0, .inl (cI, M, .inl R0)), (r1, .inl (cI, M, .inl R1)), (r2, .inl (cI, M, .inl R2)), (ra, .inl (cI, 256, .inl (ctI f R0 R1 R2 0)))] := hD
  refine lv_istore_n (lv' := [(3, .int (nI 0)), (0, .ref sm), (1, .ref ra), (2, .int (nI n))]) hx hb dX2_cutInto_1 rfl hl (by decide) rfl (fun ls hl => ?_)
  have key_2 : ∀ (fuel : Nat) (t : Nat), (t ≤ n) → (n - t < fuel) → ∀ (H : Heap) (locs : List Loc) (ls : Array Slot), va_P (dC, dI) vwCl [(sm, .inr (1, [.ref so])), (so, .inl (cO, 3, .inr (.inr (.inr (.inr g))))), (r0, .inl (cI, M, .inl R0)), (r1, .inl (cI, M, .inl R1)), (r2, .inl (cI, M, .inl R2)), (ra, .inl (cI, 256, .inl (ctI f R0 R1 R2 t)))] H → va_D A [(sm, .inr (1, [.ref so])), (so, .inl (cO, 3, .inr (.inr (.inr (.inr g))))), (r0, .inl (cI, M, .inl R0)), (r1, .inl (cI, M, .inl R1)), (r2, .inl (cI, M, .inl R2)), (ra, .inl (cI, 256, .inl (ctI f R0 R1 R2 t)))] → va_S A s.heap H locs → lv_has ls 4 [(3, .int (nI t)), (2, .int (nI n)), (1, .ref ra), (0, .ref sm)] → W p l e (headSpec wsX2_cutInto { frames := 3, cells := 0, slots := 0, locals := 74 }).room s m ([.ref sm, .ref ra, .int (nI n)] : List Value).toArray below meth c H locs 0 0 (MQ below (q_X2_cutInto dC dI cI cO sm so r0 r1 r2 ra g R0 R1 R2 f M n  A) ([.ref sm, .ref ra, .int (nI n)] : List Value).toArray s 0 0 A) (F0 m 2 ls []) := by
    intro fuel
    induction fuel with
    | zero => intro t; intros; omega
    | succ fuel ih_2 =>
      intro t ht hfu H locs ls hP hD hS hl
      refine lv_iload_n hx hb dX2_cutInto_2 rfl (lv_at hl 0 rfl) ?_
      refine lv_iload_n hx hb dX2_cutInto_3 rfl (lv_at hl 1 rfl) ?_
      refine lv_icmp_ge (tgt := 22) hx hb dX2_cutInto_4 (by decide) (fun c_1 => ?_) (fun c_1 => ?_)
      · have c_1 : n ≤ t := (nI_leI (a := n) (b := t) (by omega) (by omega)).mp c_1
        rw [show ctI f R0 R1 R2 t = ctI f R0 R1 R2 n from by rw [show t = n by omega]] at hP hD
        have hP : va_P (dC, dI) vwCl [(sm, .inr (1, [.ref so])), (so, .inl (cO, 3, .inr (.inr (.inr (.inr g))))), (r0, .inl (cI, M, .inl R0)), (r1, .inl (cI, M, .inl R1)), (r2, .inl (cI, M, .inl R2)), (ra, .inl (cI, 256, .inl (ctI f R0 R1 R2 n)))] H := hP
        have hD : va_D A [(sm, .inr (1, [.ref so])), (so, .inl (cO, 3, .inr (.inr (.inr (.inr g))))), (r0, .inl (cI, M, .inl R0)), (r1, .inl (cI, M, .inl R1)), (r2, .inl (cI, M, .inl R2)), (ra, .inl (cI, 256, .inl (ctI f R0 R1 R2 n)))] := hD
        have hP9 : va_P (dC, dI) vwCl [(sm, .inr (1, [.ref so])), (so, .inl (cO, 3, .inr (.inr (.inr (.inr g))))), (r0, .inl (cI, M, .inl R0)), (r1, .inl (cI, M, .inl R1)), (r2, .inl (cI, M, .inl R2)), (ra, .inl (cI, 256, .inl (ctI f R0 R1 R2 n)))] H := hP.sub [0, 1, 2, 3, 4, 5] rfl
        have hD9 : va_D A [(sm, .inr (1, [.ref so])), (so, .inl (cO, 3, .inr (.inr (.inr (.inr g))))), (r0, .inl (cI, M, .inl R0)), (r1, .inl (cI, M, .inl R1)), (r2, .inl (cI, M, .inl R2)), (ra, .inl (cI, 256, .inl (ctI f R0 R1 R2 n)))] := hD.sub [0, 1, 2, 3, 4, 5] (by decide) rfl
        exact W.vret hx hb hr (fun t ht hW => ⟨⟨(), rfl, trivial, by rw [ht]; exact hP9, hD9⟩, hS.F ht⟩) hS.2.2 dX2_cutInto_22
      · have c_1 : ¬ (n ≤ t) := fun zq9 => c_1 ((nI_leI (a := n) (b := t) (by omega) (by omega)).mpr zq9)
        refine lv_aload_n hx hb dX2_cutInto_7 rfl (lv_at hl 2 rfl) ?_
        refine lv_iload_n hx hb dX2_cutInto_8 rfl (lv_at hl 0 rfl) ?_
        refine lv_aload_n hx hb dX2_cutInto_9 rfl (lv_at hl 3 rfl) ?_
        refine lv_iload_n hx hb dX2_cutInto_10 rfl (lv_at hl 0 rfl) ?_
        have hPc := hP.sub (ws' := [(sm, .inr (1, [.ref so])), (so, .inl (cO, 3, .inr (.inr (.inr (.inr g))))), (r0, .inl (cI, M, .inl R0)), (r1, .inl (cI, M, .inl R1)), (r2, .inl (cI, M, .inl R2))]) [0, 1, 2, 3, 4] rfl
        have hDc := hD.sub (ws' := [(sm, .inr (1, [.ref so])), (so, .inl (cO, 3, .inr (.inr (.inr (.inr g))))), (r0, .inl (cI, M, .inl R0)), (r1, .inl (cI, M, .inl R1)), (r2, .inl (cI, M, .inl R2))]) [0, 1, 2, 3, 4] (by decide) rfl
        have hKc := hK.sub (tys' := [(cI, .int), (cO, .array .int)]) [0, 1] rfl
        have hFc := va_free (wc := [(sm, .inr (1, [.ref so])), (so, .inl (cO, 3, .inr (.inr (.inr (.inr g))))), (r0, .inl (cI, M, .inl R0)), (r1, .inl (cI, M, .inl R1)), (r2, .inl (cI, M, .inl R2))]) hD hS hA [0, 1, 2, 3, 4] rfl
        refine va_calll (va_runV (As := [.int (nI t)]) (rest := [.int (nI t), .ref ra]) ⟨hx, hb, hml, hown, hts⟩ (c_X2_lowest64Bits l dC dI cI cO sm so r0 r1 r2 g R0 R1 R2 M  t  H.size hg0 hg1 hg2 (by omega) (by omega)) (cwV 1 hts gX2_cutInto_X2_lowest64Bits rfl rfl rfl (by decide +kernel) ⟨Nat.le_of_ble_eq_true rfl, Nat.le_of_ble_eq_true rfl⟩) ⟨fun a U g mk q => by obtain ⟨q0, q1, qP, qK, qD⟩ := q; exact ⟨q0, q1, qP, va_K.moved (u := U) (U := U.calling g mk a) (Vm.Alike.refl U.vm) qK, qD⟩, va_recv hKc hPc (ci := 1) (q0 := 0) rfl rfl, fun U hU hW => ⟨rfl, by rw [hU], by rw [hU]; exact hPc, va_K.moved hW.alike hKc, hDc.weaken (fun _ _ _ _ => trivial)⟩⟩ rfl rfl hl.1 rfl (lv_room (Nat.le_of_ble_eq_true rfl)) dX2_cutInto_11 ⟨Nat.le_of_ble_eq_true rfl, Nat.le_of_ble_eq_true rfl⟩) hS (fun q _ h => hFc q h) hFc (fun r9 u9 t9 H1 locs ht hvm hw hB hz1 hk1 hS => ?_)
        obtain ⟨hP1, hD1⟩ := hB
        rw [ht] at hP1
        try dsimp only at hw
        obtain ⟨hP, hD⟩ := va_join (wr := [(ra, .inl (cI, 256, .inl (ctI f R0 R1 R2 t)))]) (w1 := [(sm, .inr (1, [.ref so])), (so, .inl (cO, 3, .inr (.inr (.inr (.inr g))))), (r0, .inl (cI, M, .inl R0)), (r1, .inl (cI, M, .inl R1)), (r2, .inl (cI, M, .inl R2))]) hP hD [0, 1, 2, 3, 4] [5] rfl rfl (by decide) (by decide) hk1 hFc hP1 hD1
        generalize H1 = H at hP hS ⊢
        have hP : va_P (dC, dI) vwCl [(ra, .inl (cI, 256, .inl (ctI f R0 R1 R2 t))), (sm, .inr (1, [.ref so])), (so, .inl (cO, 3, .inr (.inr (.inr (.inr g))))), (r0, .inl (cI, M, .inl R0)), (r1, .inl (cI, M, .inl R1)), (r2, .inl (cI, M, .inl R2))] H := hP
        have hD : va_D A [(ra, .inl (cI, 256, .inl (ctI f R0 R1 R2 t))), (sm, .inr (1, [.ref so])), (so, .inl (cO, 3, .inr (.inr (.inr (.inr g))))), (r0, .inl (cI, M, .inl R0)), (r1, .inl (cI, M, .inl R1)), (r2, .inl (cI, M, .inl R2))] := hD
        clear hPc hDc hKc hFc hP1 hD1 hk1 hz1 hvm ht
        subst hw
        refine lv_l2i (v := iI (lowZ (R0 t).toInt (R1 t).toInt (R2 t).toInt)) hx hb dX2_cutInto_14 (lI_i (lowZ (R0 t).toInt (R1 t).toInt (R2 t).toInt)) ?_
        refine va_iast hx hb hK hP hD hS 0 0 rfl rfl (vp_in_nI (by omega) (by omega)) dX2_cutInto_15 (fun H locs hP hD hS => ?_)
        rw [nI_clamp (show t < 2 ^ 31 by omega)] at hP hD
        have hP : va_P (dC, dI) vwCl [(ra, .inl (cI, 256, .inl (upd (ctI f R0 R1 R2 t) t (iI (lowZ (R0 t).toInt (R1 t).toInt (R2 t).toInt))))), (sm, .inr (1, [.ref so])), (so, .inl (cO, 3, .inr (.inr (.inr (.inr g))))), (r0, .inl (cI, M, .inl R0)), (r1, .inl (cI, M, .inl R1)), (r2, .inl (cI, M, .inl R2))] H := hP
        have hD : va_D A [(ra, .inl (cI, 256, .inl (upd (ctI f R0 R1 R2 t) t (iI (lowZ (R0 t).toInt (R1 t).toInt (R2 t).toInt))))), (sm, .inr (1, [.ref so])), (so, .inl (cO, 3, .inr (.inr (.inr (.inr g))))), (r0, .inl (cI, M, .inl R0)), (r1, .inl (cI, M, .inl R1)), (r2, .inl (cI, M, .inl R2))] := hD
        rw [show upd (ctI f R0 R1 R2 t) t (iI (lowZ (R0 t).toInt (R1 t).toInt (R2 t).toInt)) = ctI f R0 R1 R2 (t + 1) from ctI_s] at hP hD
        have hP : va_P (dC, dI) vwCl [(ra, .inl (cI, 256, .inl (ctI f R0 R1 R2 (t + 1)))), (sm, .inr (1, [.ref so])), (so, .inl (cO, 3, .inr (.inr (.inr (.inr g))))), (r0, .inl (cI, M, .inl R0)), (r1, .inl (cI, M, .inl R1)), (r2, .inl (cI, M, .inl R2))] H := hP
        have hD : va_D A [(ra, .inl (cI, 256, .inl (ctI f R0 R1 R2 (t + 1)))), (sm, .inr (1, [.ref so])), (so, .inl (cO, 3, .inr (.inr (.inr (.inr g))))), (r0, .inl (cI, M, .inl R0)), (r1, .inl (cI, M, .inl R1)), (r2, .inl (cI, M, .inl R2))] := hD
        refine lv_iinc (v := nI (t + 1)) (lv' := [(3, .int (nI (t + 1))), (2, .int (nI n)), (1, .ref ra), (0, .ref sm)]) hx hb dX2_cutInto_16 hl (k := 0) rfl (nI_add t 1) (by decide) rfl (fun ls hl => ?_)
        refine lv_goto (tgt := 2) hx hb dX2_cutInto_19 (by decide) ?_
        exact ih_2  (t + 1) (by omega) (by omega) _ _ _ (hP.sub [1, 2, 3, 4, 5, 0] rfl) (hD.sub [1, 2, 3, 4, 5, 0] (by decide) rfl) hS (lv_sub hl [0, 1, 2, 3] rfl)
  exact key_2 (n + 1) 0 (by omega) (by omega) _ _ _ (hP.sub [0, 1, 2, 3, 4, 5] rfl) (hD.sub [0, 1, 2, 3, 4, 5] (by decide) rfl) hS (lv_sub hl [0, 3, 2, 1] rfl)

abbrev q_X0_storeRemainders (dC : Nat → ClassId) (dI : Nat → Nat → Nat) (cI cJ cO : ClassId) (hh lf rt rp sm so ra : Nat) (g : Nat → Option Nat) (F : Nat → Int) (f : Nat → Int32) (M n q : Nat) (A : Nat → Prop) : Array Value → State → Outcome → State → Prop := va_Qv (fun (u : Unit) => True) (fun u t => va_P (dC, dI) vwCl [(hh, .inr (0, [.ref lf, .ref rt, .ref rp])), (lf, .inl (cJ, 512, .inr (.inl (fun j => lI (F j))))), (sm, .inr (1, [.ref so])), (so, .inl (cO, 3, .inr (.inr (.inr (.inr g))))), (ra, .inl (cI, M, .inl (stR f F n)))] t.heap ∧ va_D A [(hh, .inr (0, [.ref lf, .ref rt, .ref rp])), (lf, .inl (cJ, 512, .inr (.inl (fun j => lI (F j))))), (sm, .inr (1, [.ref so])), (so, .inl (cO, 3, .inr (.inr (.inr (.inr g))))), (ra, .inl (cI, M, .inl (stR f F n)))]) A
set_option maxHeartbeats 4000000 in
set_option maxRecDepth 100000 in
theorem c_X0_storeRemainders (l : Launch) (dC : Nat → ClassId) (dI : Nat → Nat → Nat) (cI cJ cO : ClassId) (hh lf rt rp sm so ra : Nat) (g : Nat → Option Nat) (F : Nat → Int) (f : Nat → Int32) (M n q : Nat) (sz : Nat) (hg : g q = some ra) (hq : q < 3) (hn : n ≤ M) (hM : M ≤ 512) : Met l yX0_storeRemainders wsX0_storeRemainders ({ frames := 1, cells := 0, slots := 0, locals := 24 }) (va_Pc [.ref hh, .int (nI n), .int (nI q), .ref sm] (fun U => U.heap.size = sz ∧ va_P (dC, dI) vwCl [(hh, .inr (0, [.ref lf, .ref rt, .ref rp])), (lf, .inl (cJ, 512, .inr (.inl (fun j => lI (F j))))), (sm, .inr (1, [.ref so])), (so, .inl (cO, 3, .inr (.inr (.inr (.inr g))))), (ra, .inl (cI, M, .inl f))] U.heap ∧ va_K (dC, dI) vwCl [(cI, .int), (cJ, .long), (cO, .array .int)] U ∧ va_D (fun _ => True) [(hh, .inr (0, [.ref lf, .ref rt, .ref rp])), (lf, .inl (cJ, 512, .inr (.inl (fun j => lI (F j))))), (sm, .inr (1, [.ref so])), (so, .inl (cO, 3, .inr (.inr (.inr (.inr g))))), (ra, .inl (cI, M, .inl f))])) (q_X0_storeRemainders dC dI cI cJ cO hh lf rt rp sm so ra g F f M n q (va_A [(hh, .inr (0, [.ref lf, .ref rt, .ref rp])), (lf, .inl (cJ, 512, .inr (.inl (fun j => lI (F j))))), (sm, .inr (1, [.ref so])), (so, .inl (cO, 3, .inr (.inr (.inr (.inr g))))), (ra, .inl (cI, M, .inl f))] sz)) 0 0 (va_A [(hh, .inr (0, [.ref lf, .ref rt, .ref rp])), (lf, .inl (cJ, 512, .inr (.inl (fun j => lI (F j))))), (sm, .inr (1, [.ref so])), (so, .inl (cO, 3, .inr (.inr (.inr (.inr g))))), (ra, .inl (cI, M, .inl f))] sz) := by
  refine Met.ofW (cc := cX0_storeRemainders) (maxL := 5) (ret := none) (by decide) rfl ?_
  intro p e s m args below meth c s₁ B hml hv
  obtain ⟨rfl, hsz, hP, hK, hD0⟩ := hv
  have hx := B.exec
  have hb := B.bytes
  have hr := B.returns
  have hts := atoms_spec (ws := wsX0_storeRemainders) B.pre
  have hown : s.vm.findClass RX0 = some m.cls := findClass_of_methodNamed B.named
  have hlocks := B.notSynchronized
  subst hsz
  have hD := hD0.self (sz := s.heap.size)
  generalize hAe : va_A [(hh, .inr (0, [.ref lf, .ref rt, .ref rp])), (lf, .inl (cJ, 512, .inr (.inl (fun j => lI (F j))))), (sm, .inr (1, [.ref so])), (so, .inl (cO, 3, .inr (.inr (.inr (.inr g))))), (ra, .inl (cI, M, .inl f))] s.heap.size = A at hD ⊢
  have hA : ∀ q : Nat, s.heap.size ≤ q → A q := fun q h => by rw [← hAe]; exact Or.inr h
  have hS : va_S A s.heap s.heap [] := va_S.rf
  have hP : va_P (dC, dI) vwCl [(hh, .inr (0, [.ref lf, .ref rt, .ref rp])), (lf, .inl (cJ, 512, .inr (.inl (fun j => lI (F j))))), (sm, .inr (1, [.ref so])), (so, .inl (cO, 3, .inr (.inr (.inr (.inr g))))), (ra, .inl (cI, M, .inl f))] s.heap := hP
  have hl := lv_entry (([.ref hh, .int (nI n), .int (nI q), .ref sm] : List Value)) (n := 5) (Nat.le_of_ble_eq_true rfl)
  rw [lg_entry_eq]
  generalize (lg_sl (([.ref hh, .int (nI n), .int (nI q), .ref sm] : List Value)) ++ List.replicate (5 - (lg_sl (([.ref hh, .int (nI n), .int (nI q), .ref sm] : List Value))).length) Slot.unset).toArray = ls at hl ⊢
  have hl : lv_has ls 5 [(0, .ref hh), (1, .int (nI n)), (2, .int (nI q)), (3, .ref sm)] := hl
  obtain ⟨H, hHe⟩ : ∃ H : Heap, H = s.heap := ⟨_, rfl⟩
  rw [← hHe] at hP
  have hS : va_S A s.heap H [] := by rw [hHe]; exact hS
  obtain ⟨locs, hlo⟩ : ∃ L : List Loc, L = [] := ⟨_, rfl⟩
  rw [← hlo] at hS ⊢
  rw [← hHe]
  refine lv_iconst (v := nI 0) hx hb dX0_storeRemainders_0 (by decide) ?_
  rw [show f = stR f F 0 from (stR_0 _ _).symm] at hP hD
  have hP : va_P (dC, dI) vwCl [(hh, .inr (0, [.ref lf, .ref rt, .ref rp])), (lf, .inl (cJ, 512, .inr (.inl (fun j => lI (F j))))), (sm, .inr (1, [.ref so])), (so, .inl (cO, 3, .inr (.inr (.inr (.inr g))))), (ra, .inl (cI, M, .inl (stR f F 0)))] H := hP
  have hD : va_D A [(hh, .inr (0, [.ref lf, .ref rt, .ref rp])), (lf, .inl (cJ, 512, .inr (.inl (fun j => lI (F j))))), (sm, .inr (1, [.ref so])), (so, .inl (cO, 3, .inr (.inr (.inr (.inr g))))), (ra, .inl (cI, M, .inl (stR f F 0)))] := hD
  refine lv_istore (lv' := [(4, .int (nI 0)), (0, .ref hh), (1, .int (nI n)), (2, .int (nI q)), (3, .ref sm)]) hx hb dX0_storeRemainders_1 hl (by decide) rfl (fun ls hl => ?_)
  have key_3 : ∀ (fuel : Nat) (t : Nat), (t ≤ n) → (n - t < fuel) → ∀ (H : Heap) (locs : List Loc) (ls : Array Slot), va_P (dC, dI) vwCl [(hh, .inr (0, [.ref lf, .ref rt, .ref rp])), (lf, .inl (cJ, 512, .inr (.inl (fun j => lI (F j))))), (sm, .inr (1, [.ref so])), (so, .inl (cO, 3, .inr (.inr (.inr (.inr g))))), (ra, .inl (cI, M, .inl (stR f F t)))] H → va_D A [(hh, .inr (0, [.ref lf, .ref rt, .ref rp])), (lf, .inl (cJ, 512, .inr (.inl (fun j => lI (F j))))), (sm, .inr (1, [.ref so])), (so, .inl (cO, 3, .inr (.inr (.inr (.inr g))))), (ra, .inl (cI, M, .inl (stR f F t)))] → va_S A s.heap H locs → lv_has ls 5 [(4, .int (nI t)), (3, .ref sm), (2, .int (nI q)), (1, .int (nI n)), (0, .ref hh)] → W p l e (headSpec wsX0_storeRemainders { frames := 1, cells := 0, slots := 0, locals := 24 }).room s m ([.ref hh, .int (nI n), .int (nI q), .ref sm] : List Value).toArray below meth c H locs 0 0 (MQ below (q_X0_storeRemainders dC dI cI cJ cO hh lf rt rp sm so ra g F f M n q  A) ([.ref hh, .int (nI n), .int (nI q), .ref sm] : List Value).toArray s 0 0 A) (F0 m 3 ls []) := by
    intro fuel
    induction fuel with
    | zero => intro t; intros; omega
    | succ fuel ih_3 =>
      intro t ht hfu H locs ls hP hD hS hl
      refine lv_iload hx hb dX0_storeRemainders_3 (lv_at hl 0 rfl) ?_
      refine lv_iload_n hx hb dX0_storeRemainders_5 rfl (lv_at hl 3 rfl) ?_
      refine lv_icmp_ge (tgt := 29) hx hb dX0_storeRemainders_6 (by decide) (fun c_1 => ?_) (fun c_1 => ?_)
      · have c_1 : n ≤ t := (nI_leI (a := n) (b := t) (by omega) (by omega)).mp c_1
        rw [show stR f F t = stR f F n from by rw [show t = n by omega]] at hP hD
        have hP : va_P (dC, dI) vwCl [(hh, .inr (0, [.ref lf, .ref rt, .ref rp])), (lf, .inl (cJ, 512, .inr (.inl (fun j => lI (F j))))), (sm, .inr (1, [.ref so])), (so, .inl (cO, 3, .inr (.inr (.inr (.inr g))))), (ra, .inl (cI, M, .inl (stR f F n)))] H := hP
        have hD : va_D A [(hh, .inr (0, [.ref lf, .ref rt, .ref rp])), (lf, .inl (cJ, 512, .inr (.inl (fun j => lI (F j))))), (sm, .inr (1, [.ref so])), (so, .inl (cO, 3, .inr (.inr (.inr (.inr g))))), (ra, .inl (cI, M, .inl (stR f F n)))] := hD
        have hP9 : va_P (dC, dI) vwCl [(hh, .inr (0, [.ref lf, .ref rt, .ref rp])), (lf, .inl (cJ, 512, .inr (.inl (fun j => lI (F j))))), (sm, .inr (1, [.ref so])), (so, .inl (cO, 3, .inr (.inr (.inr (.inr g))))), (ra, .inl (cI, M, .inl (stR f F n)))] H := hP.sub [0, 1, 2, 3, 4] rfl
        have hD9 : va_D A [(hh, .inr (0, [.ref lf, .ref rt, .ref rp])), (lf, .inl (cJ, 512, .inr (.inl (fun j => lI (F j))))), (sm, .inr (1, [.ref so])), (so, .inl (cO, 3, .inr (.inr (.inr (.inr g))))), (ra, .inl (cI, M, .inl (stR f F n)))] := hD.sub [0, 1, 2, 3, 4] (by decide) rfl
        exact W.vret hx hb hr (fun t ht hW => ⟨⟨(), rfl, trivial, by rw [ht]; exact hP9, hD9⟩, hS.F ht⟩) hS.2.2 dX0_storeRemainders_29
      · have c_1 : ¬ (n ≤ t) := fun zq9 => c_1 ((nI_leI (a := n) (b := t) (by omega) (by omega)).mpr zq9)
        refine lv_aload_n hx hb dX0_storeRemainders_9 rfl (lv_at hl 1 rfl) ?_
        refine lv_iload_n hx hb dX0_storeRemainders_10 rfl (lv_at hl 2 rfl) ?_
        refine lv_iload hx hb dX0_storeRemainders_11 (lv_at hl 0 rfl) ?_
        refine lv_aload_n hx hb dX0_storeRemainders_13 rfl (lv_at hl 4 rfl) ?_
        refine va_get (D := (dC, dI)) (ci := 0) (v := .ref lf) (C := RX0) (T := TX0) (N := 3) hx hb hts (by decide +kernel) hown hK hP 0 rfl rfl 0 (by decide) (hts (.fieldLink RX0 9 "ThreePrimes$Folder" "left" "[J") (by decide +kernel)) (fun _ h9 => h9) rfl dX0_storeRemainders_14 ?_
        refine lv_iload hx hb dX0_storeRemainders_17 (lv_at hl 0 rfl) ?_
        refine va_lald hx hb hK hP 1 1 rfl rfl (vp_in_nI (by omega) (by omega)) dX0_storeRemainders_19 ?_
        refine W.eq (g2 := F0 m _ ls [.long (lI (F t)), .int (nI t), .int (nI q), .ref sm]) (by rw [nI_clamp (by omega)]) ?_
        have hPc := hP.sub (ws' := [(sm, .inr (1, [.ref so])), (so, .inl (cO, 3, .inr (.inr (.inr (.inr g))))), (ra, .inl (cI, M, .inl (stR f F t)))]) [2, 3, 4] rfl
        have hDc := hD.sub (ws' := [(sm, .inr (1, [.ref so])), (so, .inl (cO, 3, .inr (.inr (.inr (.inr g))))), (ra, .inl (cI, M, .inl (stR f F t)))]) [2, 3, 4] (by decide) rfl
        have hKc := hK.sub (tys' := [(cI, .int), (cO, .array .int)]) [0, 2] rfl
        have hFc := va_free (wc := [(sm, .inr (1, [.ref so])), (so, .inl (cO, 3, .inr (.inr (.inr (.inr g))))), (ra, .inl (cI, M, .inl (stR f F t)))]) hD hS hA [2, 3, 4] rfl
        refine va_callv (va_runV (As := [.int (nI q), .int (nI t), .long (lI (F t))]) (rest := []) ⟨hx, hb, hml, hown, hts⟩ (c_X2_setRemainder l dC dI cI cO sm so ra g (stR f F t) M q t (F t) H.size hg (by omega) (by omega) (by omega)) (cwV 3 hts gX0_storeRemainders_X2_setRemainder rfl rfl rfl (by decide +kernel) ⟨Nat.le_of_ble_eq_true rfl, Nat.le_of_ble_eq_true rfl⟩) ⟨fun a U g mk q => by obtain ⟨q0, q1, qP, qK, qD⟩ := q; exact ⟨q0, q1, qP, va_K.moved (u := U) (U := U.calling g mk a) (Vm.Alike.refl U.vm) qK, qD⟩, va_recv hKc hPc (ci := 1) (q0 := 0) rfl rfl, fun U hU hW => ⟨rfl, by rw [hU], by rw [hU]; exact hPc, va_K.moved hW.alike hKc, hDc.weaken (fun _ _ _ _ => trivial)⟩⟩ rfl rfl hl.1 rfl (lv_room (Nat.le_of_ble_eq_true rfl)) dX0_storeRemainders_20 ⟨Nat.le_of_ble_eq_true rfl, Nat.le_of_ble_eq_true rfl⟩) hS (fun q _ h => hFc q h) hFc (fun u9 t9 H1 locs ht hvm hw hB hz1 hk1 hS => ?_)
        obtain ⟨hP1, hD1⟩ := hB
        rw [ht] at hP1
        try dsimp only at hw
        obtain ⟨hP, hD⟩ := va_join (wr := [(hh, .inr (0, [.ref lf, .ref rt, .ref rp])), (lf, .inl (cJ, 512, .inr (.inl (fun j => lI (F j)))))]) (w1 := [(sm, .inr (1, [.ref so])), (so, .inl (cO, 3, .inr (.inr (.inr (.inr g))))), (ra, .inl (cI, M, .inl (upd (stR f F t) t (iI (F t)))))]) hP hD [2, 3, 4] [0, 1] rfl rfl (by decide) (by decide) hk1 hFc hP1 hD1
        generalize H1 = H at hP hS ⊢
        have hP : va_P (dC, dI) vwCl [(hh, .inr (0, [.ref lf, .ref rt, .ref rp])), (lf, .inl (cJ, 512, .inr (.inl (fun j => lI (F j))))), (sm, .inr (1, [.ref so])), (so, .inl (cO, 3, .inr (.inr (.inr (.inr g))))), (ra, .inl (cI, M, .inl (upd (stR f F t) t (iI (F t)))))] H := hP
        have hD : va_D A [(hh, .inr (0, [.ref lf, .ref rt, .ref rp])), (lf, .inl (cJ, 512, .inr (.inl (fun j => lI (F j))))), (sm, .inr (1, [.ref so])), (so, .inl (cO, 3, .inr (.inr (.inr (.inr g))))), (ra, .inl (cI, M, .inl (upd (stR f F t) t (iI (F t)))))] := hD
        clear hPc hDc hKc hFc hP1 hD1 hk1 hz1 hvm ht
        clear hw
        rw [show upd (stR f F t) t (iI (F t)) = stR f F (t + 1) from stR_s] at hP hD
        have hP : va_P (dC, dI) vwCl [(hh, .inr (0, [.ref lf, .ref rt, .ref rp])), (lf, .inl (cJ, 512, .inr (.inl (fun j => lI (F j))))), (sm, .inr (1, [.ref so])), (so, .inl (cO, 3, .inr (.inr (.inr (.inr g))))), (ra, .inl (cI, M, .inl (stR f F (t + 1))))] H := hP
        have hD : va_D A [(hh, .inr (0, [.ref lf, .ref rt, .ref rp])), (lf, .inl (cJ, 512, .inr (.inl (fun j => lI (F j))))), (sm, .inr (1, [.ref so])), (so, .inl (cO, 3, .inr (.inr (.inr (.inr g))))), (ra, .inl (cI, M, .inl (stR f F (t + 1))))] := hD
        refine lv_iinc (v := nI (t + 1)) (lv' := [(4, .int (nI (t + 1))), (3, .ref sm), (2, .int (nI q)), (1, .int (nI n)), (0, .ref hh)]) hx hb dX0_storeRemainders_23 hl (k := 0) rfl (nI_add t 1) (by decide) rfl (fun ls hl => ?_)
        refine lv_goto (tgt := 3) hx hb dX0_storeRemainders_26 (by decide) ?_
        exact ih_3  (t + 1) (by omega) (by omega) _ _ _ (hP.sub [0, 1, 2, 3, 4] rfl) (hD.sub [0, 1, 2, 3, 4] (by decide) rfl) hS (lv_sub hl [0, 1, 2, 3, 4] rfl)
  exact key_3 (n + 1) 0 (by omega) (by omega) _ _ _ (hP.sub [0, 1, 2, 3, 4] rfl) (hD.sub [0, 1, 2, 3, 4] (by decide) rfl) hS (lv_sub hl [0, 4, 3, 2, 1] rfl)
