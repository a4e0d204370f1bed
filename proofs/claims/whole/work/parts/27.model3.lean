theorem pwT_succ (f : Nat → Int32) (n x tp t : Nat) : pwT f n x tp (t + 1) = if x / 2 ^ (tp - 1 - t) % 2 = 1 then c32 (c32 (pwT f n x tp t) (pwT f n x tp t) n) f n else c32 (pwT f n x tp t) (pwT f n x tp t) n := rfl
theorem pwT_s {f K : Nat → Int32} {n x tp v : Nat} (hv : v < tp) (h : x / 2 ^ v % 2 = 1) (hK : ∀ j, j < n → K j = c32 (c32 (pwT f n x tp (tp - (v + 1))) (pwT f n x tp (tp - (v + 1))) n) f n j) : ∀ j, j < n → K j = pwT f n x tp (tp - v) j := by
  intro j hj
  rw [hK j hj, show tp - v = (tp - (v + 1)) + 1 by omega, pwT_succ, show tp - 1 - (tp - (v + 1)) = v by omega, if_pos h]
theorem pwT_n {f K : Nat → Int32} {n x tp v : Nat} (hv : v < tp) (h : ¬ x / 2 ^ v % 2 = 1) (hK : ∀ j, j < n → K j = c32 (pwT f n x tp (tp - (v + 1))) (pwT f n x tp (tp - (v + 1))) n j) : ∀ j, j < n → K j = pwT f n x tp (tp - v) j := by
  intro j hj
  rw [hK j hj, show tp - v = (tp - (v + 1)) + 1 by omega, pwT_succ, show tp - 1 - (tp - (v + 1)) = v by omega, if_neg h]
abbrev q_X4_power_ok (dC : Nat → ClassId) (dI : Nat → Nat → Nat) (mo ma mb lo hi kp ot su k rs : Nat) (tv : Int32) (cI : ClassId) (fa fk fo fs : Nat → Int32) (x : Nat) (A : Nat → Prop) : Array Value → State → Outcome → State → Prop := va_Qi (fun (r : Int32) (u : (Nat → Int32) × (Nat → Int32) × (Nat → Int32)) => r = u.1 0 ∧ ∃ tp, 2 ^ tp ≤ x ∧ x < 2 ^ (tp + 1) ∧ tp ≤ 9 ∧ ∀ j, j < 2 ^ k → u.1 j = pwT fa (2 ^ k) x tp tp j) (fun u t => va_P (dC, dI) vwCl [(mo, .inr (3, [.int (nI 0), .int (nI (2 ^ k)), .ref ma, .ref mb, .int (nI rs), .ref lo, .ref hi, .ref kp, .ref ot, .ref su])), (ma, .inl (cI, 256, .inl (mix u.1 fa (2 ^ k)))), (kp, .inl (cI, 256, .inl u.1)), (ot, .inl (cI, 256, .inl u.2.1)), (su, .inl (cI, 256, .inl u.2.2))] t.heap ∧ va_D A [(mo, .inr (3, [.int (nI 0), .int (nI (2 ^ k)), .ref ma, .ref mb, .int (nI rs), .ref lo, .ref hi, .ref kp, .ref ot, .ref su])), (ma, .inl (cI, 256, .inl (mix u.1 fa (2 ^ k)))), (kp, .inl (cI, 256, .inl u.1)), (ot, .inl (cI, 256, .inl u.2.1)), (su, .inl (cI, 256, .inl u.2.2))]) A
set_option maxHeartbeats 4000000 in
set_option maxRecDepth 100000 in
theorem c_X4_power_ok (l : Launch) (dC : Nat → ClassId) (dI : Nat → Nat → Nat) (mo ma mb lo hi kp ot su k rs : Nat) (tv : Int32) (cI : ClassId) (fa fk fo fs : Nat → Int32) (x : Nat) (sz : Nat) (zk1 : 1 ≤ k) (zk : k ≤ 8) (zx1 : 1 ≤ x) (zx2 : x ≤ 1000) : Met l yX4_power wsX4_power ({ frames := 1, cells := 0, slots := 0, locals := 24 }) (va_Pc [.ref mo, .int (nI x)] (fun U => U.heap.size = sz ∧ va_P (dC, dI) vwCl [(mo, .inr (3, [.int tv, .int (nI (2 ^ k)), .ref ma, .ref mb, .int (nI rs), .ref lo, .ref hi, .ref kp, .ref ot, .ref su])), (ma, .inl (cI, 256, .inl fa)), (kp, .inl (cI, 256, .inl fk)), (ot, .inl (cI, 256, .inl fo)), (su, .inl (cI, 256, .inl fs))] U.heap ∧ va_K (dC, dI) vwCl [(cI, .int)] U ∧ va_D (fun _ => True) [(mo, .inr (3, [.int tv, .int (nI (2 ^ k)), .ref ma, .ref mb, .int (nI rs), .ref lo, .ref hi, .ref kp, .ref ot, .ref su])), (ma, .inl (cI, 256, .inl fa)), (kp, .inl (cI, 256, .inl fk)), (ot, .inl (cI, 256, .inl fo)), (su, .inl (cI, 256, .inl fs))])) (q_X4_power_ok dC dI mo ma mb lo hi kp ot su k rs tv cI fa fk fo fs x (va_A [(mo, .inr (3, [.int tv, .int (nI (2 ^ k)), .ref ma, .ref mb, .int (nI rs), .ref lo, .ref hi, .ref kp, .ref ot, .ref su])), (ma, .inl (cI, 256, .inl fa)), (kp, .inl (cI, 256, .inl fk)), (ot, .inl (cI, 256, .inl fo)), (su, .inl (cI, 256, .inl fs))] sz)) 0 0 (va_A [(mo, .inr (3, [.int tv, .int (nI (2 ^ k)), .ref ma, .ref mb, .int (nI rs), .ref lo, .ref hi, .ref kp, .ref ot, .ref su])), (ma, .inl (cI, 256, .inl fa)), (kp, .inl (cI, 256, .inl fk)), (ot, .inl (cI, 256, .inl fo)), (su, .inl (cI, 256, .inl fs))] sz) := by
  refine Met.ofW (cc := cX4_power) (maxL := 5) (ret := (some .int)) (by decide) rfl ?_
  intro p e s m args below meth c s₁ B hml hv
  obtain ⟨rfl, hsz, hP, hK, hD0⟩ := hv
  have hx := B.exec
  have hb := B.bytes
  have hr := B.returns
  have hts := atoms_spec (ws := wsX4_power) B.pre
  have hown : s.vm.findClass RX4 = some m.cls := findClass_of_methodNamed B.named
  have hlocks := B.notSynchronized
  subst hsz
  have hD := hD0.self (sz := s.heap.size)
  generalize hAe : va_A [(mo, .inr (3, [.int tv, .int (nI (2 ^ k)), .ref ma, .ref mb, .int (nI rs), .ref lo, .ref hi, .ref kp, .ref ot, .ref su])), (ma, .inl (cI, 256, .inl fa)), (kp, .inl (cI, 256, .inl fk)), (ot, .inl (cI, 256, .inl fo)), (su, .inl (cI, 256, .inl fs))] s.heap.size = A at hD ⊢
  have hA : ∀ q : Nat, s.heap.size ≤ q → A q := fun q h => by rw [← hAe]; exact Or.inr h
  have hS : va_S A s.heap s.heap [] := va_S.rf
  have hP : va_P (dC, dI) vwCl [(mo, .inr (3, [.int tv, .int (nI (2 ^ k)), .ref ma, .ref mb, .int (nI rs), .ref lo, .ref hi, .ref kp, .ref ot, .ref su])), (ma, .inl (cI, 256, .inl fa)), (kp, .inl (cI, 256, .inl fk)), (ot, .inl (cI, 256, .inl fo)), (su, .inl (cI, 256, .inl fs))] s.heap := hP
  have hl := lv_entry (([.ref mo, .int (nI x)] : List Value)) (n := 5) (Nat.le_of_ble_eq_true rfl)
  rw [lg_entry_eq]
  generalize (lg_sl (([.ref mo, .int (nI x)] : List Value)) ++ List.replicate (5 - (lg_sl (([.ref mo, .int (nI x)] : List Value))).length) Slot.unset).toArray = ls at hl ⊢
  have hl : lv_has ls 5 [(0, .ref mo), (1, .int (nI x))] := hl
  obtain ⟨H, hHe⟩ : ∃ H : Heap, H = s.heap := ⟨_, rfl⟩
  rw [← hHe] at hP
  have hS : va_S A s.heap H [] := by rw [hHe]; exact hS
  obtain ⟨locs, hlo⟩ : ∃ L : List Loc, L = [] := ⟨_, rfl⟩
  rw [← hlo] at hS ⊢
  rw [← hHe]
  have hpk := pw8 zk
  refine lv_aload_n hx hb dX4_power_0 rfl (lv_at hl 0 rfl) ?_
  refine lv_iload_n hx hb dX4_power_1 rfl (lv_at hl 1 rfl) ?_
  refine lv_iconst (v := nI 1) hx hb dX4_power_2 (by decide) ?_
  refine lv_icmp_lt (tgt := 13) hx hb dX4_power_3 (by decide) (fun c_1 => ?_) (fun c_1 => ?_)
  · have c_1 : x < 1 := (nI_ltI (a := x) (b := 1) (by omega) (by omega)).mp c_1
    omega
  · have c_1 : ¬ (x < 1) := fun zq9 => c_1 ((nI_ltI (a := x) (b := 1) (by omega) (by omega)).mpr zq9)
    refine lv_iload_n hx hb dX4_power_6 rfl (lv_at hl 1 rfl) ?_
    refine lv_sipush (v := nI 1000) hx hb dX4_power_7 (by decide) ?_
    refine lv_icmp_le (tgt := 17) hx hb dX4_power_10 (by decide) (fun c_2 => ?_) (fun c_2 => ?_)
    · have c_2 : x ≤ 1000 := (nI_leI (a := x) (b := 1000) (by omega) (by omega)).mp c_2
      refine lv_iconst (v := nI 0) hx hb dX4_power_17 (by decide) ?_
      refine va_put (D := (dC, dI)) (ci := 3) (v := .int (nI 0)) (ty := .int) (C := RX4) (T := TX4) (N := 10) hx hb hts (by decide +kernel) tyX4 tyX4_ok nmX4 hown hK hP hD hS 0 rfl rfl 0 (by decide) (hts (.fieldLink RX4 36 "ThreePrimesModel" "thrown" "I") (by decide +kernel)) (fun _ h9 => h9) rfl (by decide +kernel) rfl rfl (Nat.le_of_ble_eq_true rfl) dX4_power_18 (fun H locs hP hD hS => ?_)
      have hP : va_P (dC, dI) vwCl [(mo, .inr (3, [.int (nI 0), .int (nI (2 ^ k)), .ref ma, .ref mb, .int (nI rs), .ref lo, .ref hi, .ref kp, .ref ot, .ref su])), (ma, .inl (cI, 256, .inl fa)), (kp, .inl (cI, 256, .inl fk)), (ot, .inl (cI, 256, .inl fo)), (su, .inl (cI, 256, .inl fs))] H := hP
      have hD : va_D A [(mo, .inr (3, [.int (nI 0), .int (nI (2 ^ k)), .ref ma, .ref mb, .int (nI rs), .ref lo, .ref hi, .ref kp, .ref ot, .ref su])), (ma, .inl (cI, 256, .inl fa)), (kp, .inl (cI, 256, .inl fk)), (ot, .inl (cI, 256, .inl fo)), (su, .inl (cI, 256, .inl fs))] := hD
      refine lv_aload_n hx hb dX4_power_21 rfl (lv_at hl 0 rfl) ?_
      refine va_get (D := (dC, dI)) (ci := 3) (v := .int (nI 0)) (C := RX4) (T := TX4) (N := 10) hx hb hts (by decide +kernel) hown hK hP 0 rfl rfl 0 (by decide) (hts (.fieldLink RX4 36 "ThreePrimesModel" "thrown" "I") (by decide +kernel)) (fun _ h9 => h9) rfl dX4_power_22 ?_
      refine lv_if_le (tgt := 30) hx hb dX4_power_25 (by decide) (fun c_3 => ?_) (fun c_3 => ?_)
      · have c_3 : 0 ≤ 0 := (nI_leI (a := 0) (b := 0) (by omega) (by omega)).mp c_3
        refine lv_iconst (v := nI 0) hx hb dX4_power_30 (by decide) ?_
        rw [show fk = mix fa fk 0 from (mix_0 _ _).symm] at hP hD
        have hP : va_P (dC, dI) vwCl [(mo, .inr (3, [.int (nI 0), .int (nI (2 ^ k)), .ref ma, .ref mb, .int (nI rs), .ref lo, .ref hi, .ref kp, .ref ot, .ref su])), (ma, .inl (cI, 256, .inl fa)), (kp, .inl (cI, 256, .inl (mix fa fk 0))), (ot, .inl (cI, 256, .inl fo)), (su, .inl (cI, 256, .inl fs))] H := hP
        have hD : va_D A [(mo, .inr (3, [.int (nI 0), .int (nI (2 ^ k)), .ref ma, .ref mb, .int (nI rs), .ref lo, .ref hi, .ref kp, .ref ot, .ref su])), (ma, .inl (cI, 256, .inl fa)), (kp, .inl (cI, 256, .inl (mix fa fk 0))), (ot, .inl (cI, 256, .inl fo)), (su, .inl (cI, 256, .inl fs))] := hD
        refine lv_istore_n (lv' := [(2, .int (nI 0)), (0, .ref mo), (1, .int (nI x))]) hx hb dX4_power_31 rfl hl (by decide) rfl (fun ls hl => ?_)
        have key_32 : ∀ (fuel : Nat) (t : Nat), (t ≤ 2 ^ k) → (2 ^ k - t < fuel) → ∀ (H : Heap) (locs : List Loc) (ls : Array Slot), va_P (dC, dI) vwCl [(mo, .inr (3, [.int (nI 0), .int (nI (2 ^ k)), .ref ma, .ref mb, .int (nI rs), .ref lo, .ref hi, .ref kp, .ref ot, .ref su])), (ma, .inl (cI, 256, .inl fa)), (kp, .inl (cI, 256, .inl (mix fa fk t))), (ot, .inl (cI, 256, .inl fo)), (su, .inl (cI, 256, .inl fs))] H → va_D A [(mo, .inr (3, [.int (nI 0), .int (nI (2 ^ k)), .ref ma, .ref mb, .int (nI rs), .ref lo, .ref hi, .ref kp, .ref ot, .ref su])), (ma, .inl (cI, 256, .inl fa)), (kp, .inl (cI, 256, .inl (mix fa fk t))), (ot, .inl (cI, 256, .inl fo)), (su, .inl (cI, 256, .inl fs))] → va_S A s.heap H locs → lv_has ls 5 [(2, .int (nI t)), (1, .int (nI x)), (0, .ref mo)] → W p l e (headSpec wsX4_power { frames := 1, cells := 0, slots := 0, locals := 24 }).room s m ([.ref mo, .int (nI x)] : List Value).toArray below meth c H locs 0 0 (MQ below (q_X4_power_ok dC dI mo ma mb lo hi kp ot su k rs tv cI fa fk fo fs x  A) ([.ref mo, .int (nI x)] : List Value).toArray s 0 0 A) (F0 m 32 ls []) := by
          intro fuel
          induction fuel with
          | zero => intro t; intros; omega
          | succ fuel ih_32 =>
            intro t ht hfu H locs ls hP hD hS hl
            refine lv_iload_n hx hb dX4_power_32 rfl (lv_at hl 0 rfl) ?_
            refine lv_aload_n hx hb dX4_power_33 rfl (lv_at hl 2 rfl) ?_
            refine va_get (D := (dC, dI)) (ci := 3) (v := .int (nI (2 ^ k))) (C := RX4) (T := TX4) (N := 10) hx hb hts (by decide +kernel) hown hK hP 0 rfl rfl 1 (by decide) (hts (.fieldLink RX4 7 "ThreePrimesModel" "n" "I") (by decide +kernel)) (fun _ h9 => h9) rfl dX4_power_34 ?_
            refine lv_icmp_ge (tgt := 58) hx hb dX4_power_37 (by decide) (fun c_4 => ?_) (fun c_4 => ?_)
            · have c_4 : 2 ^ k ≤ t := (nI_leI (a := 2 ^ k) (b := t) (by omega) (by omega)).mp c_4
              rw [show mix fa fk t = mix fa fk (2 ^ k) from by rw [show t = 2 ^ k by omega]] at hP hD
              have hP : va_P (dC, dI) vwCl [(mo, .inr (3, [.int (nI 0), .int (nI (2 ^ k)), .ref ma, .ref mb, .int (nI rs), .ref lo, .ref hi, .ref kp, .ref ot, .ref su])), (ma, .inl (cI, 256, .inl fa)), (kp, .inl (cI, 256, .inl (mix fa fk (2 ^ k)))), (ot, .inl (cI, 256, .inl fo)), (su, .inl (cI, 256, .inl fs))] H := hP
              have hD : va_D A [(mo, .inr (3, [.int (nI 0), .int (nI (2 ^ k)), .ref ma, .ref mb, .int (nI rs), .ref lo, .ref hi, .ref kp, .ref ot, .ref su])), (ma, .inl (cI, 256, .inl fa)), (kp, .inl (cI, 256, .inl (mix fa fk (2 ^ k)))), (ot, .inl (cI, 256, .inl fo)), (su, .inl (cI, 256, .inl fs))] := hD
              refine lv_bipush (v := nI 9) hx hb dX4_power_58 (by decide) ?_
              refine lv_istore_n (lv' := [(2, .int (nI 9)), (1, .int (nI x)), (0, .ref mo)]) hx hb dX4_power_60 rfl hl (by decide) rfl (fun ls hl => ?_)
              have key_61 : ∀ (fuel : Nat) (tp : Nat), (x < 2 ^ (tp + 1)) → (tp ≤ 9) → (tp < fuel) → ∀ (H : Heap) (locs : List Loc) (ls : Array Slot), va_P (dC, dI) vwCl [(mo, .inr (3, [.int (nI 0), .int (nI (2 ^ k)), .ref ma, .ref mb, .int (nI rs), .ref lo, .ref hi, .ref kp, .ref ot, .ref su])), (ma, .inl (cI, 256, .inl fa)), (kp, .inl (cI, 256, .inl (mix fa fk (2 ^ k)))), (ot, .inl (cI, 256, .inl fo)), (su, .inl (cI, 256, .inl fs))] H → va_D A [(mo, .inr (3, [.int (nI 0), .int (nI (2 ^ k)), .ref ma, .ref mb, .int (nI rs), .ref lo, .ref hi, .ref kp, .ref ot, .ref su])), (ma, .inl (cI, 256, .inl fa)), (kp, .inl (cI, 256, .inl (mix fa fk (2 ^ k)))), (ot, .inl (cI, 256, .inl fo)), (su, .inl (cI, 256, .inl fs))] → va_S A s.heap H locs → lv_has ls 5 [(2, .int (nI tp)), (1, .int (nI x)), (0, .ref mo)] → W p l e (headSpec wsX4_power { frames := 1, cells := 0, slots := 0, locals := 24 }).room s m ([.ref mo, .int (nI x)] : List Value).toArray below meth c H locs 0 0 (MQ below (q_X4_power_ok dC dI mo ma mb lo hi kp ot su k rs tv cI fa fk fo fs x  A) ([.ref mo, .int (nI x)] : List Value).toArray s 0 0 A) (F0 m 61 ls []) := by
                intro fuel
                induction fuel with
                | zero => intro tp; intros; omega
                | succ fuel ih_61 =>
                  intro tp htp htp9 hfu H locs ls hP hD hS hl
                  have hdv := Nat.div_le_self x (2 ^ tp)
                  refine lv_iload_n hx hb dX4_power_61 rfl (lv_at hl 1 rfl) ?_
                  refine lv_iload_n hx hb dX4_power_62 rfl (lv_at hl 0 rfl) ?_
                  refine lv_ishr hx hb dX4_power_63 ?_
                  refine W.eq (congrArg (fun z => F0 m _ ls (.int z :: _)) (show (nI x) >>> ((nI tp) &&& 31) = nI (x / 2 ^ tp) from zz_shr (by omega) (by omega))) ?_
                  refine lv_iconst (v := nI 1) hx hb dX4_power_64 (by decide) ?_
                  refine lv_iand hx hb dX4_power_65 ?_
                  refine W.eq (congrArg (fun z => F0 m _ ls (.int z :: _)) (show (nI (x / 2 ^ tp)) &&& (nI 1) = nI (x / 2 ^ tp % 2) from zz_and1 (by omega))) ?_
                  refine lv_if_ne (tgt := 75) hx hb dX4_power_66 (by decide) (fun c_5 => ?_) (fun c_5 => ?_)
                  · have c_5 : ¬ (x / 2 ^ tp % 2 = 0) := fun zq9 => c_5 ((nI_eq (a := x / 2 ^ tp % 2) (b := 0) (by omega) (by omega)).mpr zq9)
                    obtain ⟨htp1, htp2⟩ := bit_top htp c_5
                    refine lv_iload_n hx hb dX4_power_75 rfl (lv_at hl 0 rfl) ?_
                    refine lv_iconst (v := nI 1) hx hb dX4_power_76 (by decide) ?_
                    refine lv_isub hx hb dX4_power_77 ?_
                    refine W.eq (congrArg (fun z => F0 m _ ls (.int z :: _)) (show (nI tp) - (nI 1) = zm tp from zm_i tp)) ?_
                    refine lv_istore_n (lv' := [(3, .int (zm tp)), (2, .int (nI tp)), (1, .int (nI x)), (0, .ref mo)]) hx hb dX4_power_78 rfl hl (by decide) rfl (fun ls hl => ?_)
                    have key_79 : ∀ (fuel : Nat) (c9 : Nat) (K9 : Nat → Int32) (fo2 : Nat → Int32) (fs2 : Nat → Int32), (c9 ≤ tp) → (∀ j, j < 2 ^ k → K9 j = pwT fa (2 ^ k) x tp (tp - c9) j) → (c9 < fuel) → ∀ (H : Heap) (locs : List Loc) (ls : Array Slot), va_P (dC, dI) vwCl [(mo, .inr (3, [.int (nI 0), .int (nI (2 ^ k)), .ref ma, .ref mb, .int (nI rs), .ref lo, .ref hi, .ref kp, .ref ot, .ref su])), (ma, .inl (cI, 256, .inl fa)), (kp, .inl (cI, 256, .inl K9)), (ot, .inl (cI, 256, .inl fo2)), (su, .inl (cI, 256, .inl fs2))] H → va_D A [(mo, .inr (3, [.int (nI 0), .int (nI (2 ^ k)), .ref ma, .ref mb, .int (nI rs), .ref lo, .ref hi, .ref kp, .ref ot, .ref su])), (ma, .inl (cI, 256, .inl fa)), (kp, .inl (cI, 256, .inl K9)), (ot, .inl (cI, 256, .inl fo2)), (su, .inl (cI, 256, .inl fs2))] → va_S A s.heap H locs → lv_has ls 5 [(3, .int (zm c9)), (2, .int (nI tp)), (1, .int (nI x)), (0, .ref mo)] → W p l e (headSpec wsX4_power { frames := 1, cells := 0, slots := 0, locals := 24 }).room s m ([.ref mo, .int (nI x)] : List Value).toArray below meth c H locs 0 0 (MQ below (q_X4_power_ok dC dI mo ma mb lo hi kp ot su k rs tv cI fa fk fo fs x  A) ([.ref mo, .int (nI x)] : List Value).toArray s 0 0 A) (F0 m 79 ls []) := by
                      intro fuel
                      induction fuel with
                      | zero => intro c9 K9 fo2 fs2; intros; omega
                      | succ fuel ih_79 =>
                        intro c9 K9 fo2 fs2 hc9 hK9 hfu H locs ls hP hD hS hl
                        rcases c9 with _ | v
                        · refine lv_iload_n hx hb dX4_power_79 rfl (lv_at hl 0 rfl) ?_
                          refine lv_if_lt (tgt := 170) hx hb dX4_power_80 (by decide) (fun c_6 => ?_) (fun c_6 => ?_)
                          · refine lv_iconst (v := nI 0) hx hb dX4_power_170 (by decide) ?_
                            rw [show fa = mix K9 fa 0 from (mix_0 _ _).symm] at hP hD
                            have hP : va_P (dC, dI) vwCl [(mo, .inr (3, [.int (nI 0), .int (nI (2 ^ k)), .ref ma, .ref mb, .int (nI rs), .ref lo, .ref hi, .ref kp, .ref ot, .ref su])), (ma, .inl (cI, 256, .inl (mix K9 fa 0))), (kp, .inl (cI, 256, .inl K9)), (ot, .inl (cI, 256, .inl fo2)), (su, .inl (cI, 256, .inl fs2))] H := hP
                            have hD : va_D A [(mo, .inr (3, [.int (nI 0), .int (nI (2 ^ k)), .ref ma, .ref mb, .int (nI rs), .ref lo, .ref hi, .ref kp, .ref ot, .ref su])), (ma, .inl (cI, 256, .inl (mix K9 fa 0))), (kp, .inl (cI, 256, .inl K9)), (ot, .inl (cI, 256, .inl fo2)), (su, .inl (cI, 256, .inl fs2))] := hD
                            refine lv_istore_n (lv' := [(3, .int (nI 0)), (2, .int (nI tp)), (1, .int (nI x)), (0, .ref mo)]) hx hb dX4_power_171 rfl hl (by decide) rfl (fun ls hl => ?_)
                            have key_172 : ∀ (fuel : Nat) (t : Nat), (t ≤ 2 ^ k) → (2 ^ k - t < fuel) → ∀ (H : Heap) (locs : List Loc) (ls : Array Slot), va_P (dC, dI) vwCl [(mo, .inr (3, [.int (nI 0), .int (nI (2 ^ k)), .ref ma, .ref mb, .int (nI rs), .ref lo, .ref hi, .ref kp, .ref ot, .ref su])), (ma, .inl (cI, 256, .inl (mix K9 fa t))), (kp, .inl (cI, 256, .inl K9)), (ot, .inl (cI, 256, .inl fo2)), (su, .inl (cI, 256, .inl fs2))] H → va_D A [(mo, .inr (3, [.int (nI 0), .int (nI (2 ^ k)), .ref ma, .ref mb, .int (nI rs), .ref lo, .ref hi, .ref kp, .ref ot, .ref su])), (ma, .inl (cI, 256, .inl (mix K9 fa t))), (kp, .inl (cI, 256, .inl K9)), (ot, .inl (cI, 256, .inl fo2)), (su, .inl (cI, 256, .inl fs2))] → va_S A s.heap H locs → lv_has ls 5 [(3, .int (nI t)), (1, .int (nI x)), (0, .ref mo)] → W p l e (headSpec wsX4_power { frames := 1, cells := 0, slots := 0, locals := 24 }).room s m ([.ref mo, .int (nI x)] : List Value).toArray below meth c H locs 0 0 (MQ below (q_X4_power_ok dC dI mo ma mb lo hi kp ot su k rs tv cI fa fk fo fs x  A) ([.ref mo, .int (nI x)] : List Value).toArray s 0 0 A) (F0 m 172 ls []) := by
                              intro fuel
                              induction fuel with
                              | zero => intro t; intros; omega
                              | succ fuel ih_172 =>
                                intro t ht hfu H locs ls hP hD hS hl
                                refine lv_iload_n hx hb dX4_power_172 rfl (lv_at hl 0 rfl) ?_
                                refine lv_aload_n hx hb dX4_power_173 rfl (lv_at hl 2 rfl) ?_
                                refine va_get (D := (dC, dI)) (ci := 3) (v := .int (nI (2 ^ k))) (C := RX4) (T := TX4) (N := 10) hx hb hts (by decide +kernel) hown hK hP 0 rfl rfl 1 (by decide) (hts (.fieldLink RX4 7 "ThreePrimesModel" "n" "I") (by decide +kernel)) (fun _ h9 => h9) rfl dX4_power_174 ?_
                                refine lv_icmp_ge (tgt := 198) hx hb dX4_power_177 (by decide) (fun c_7 => ?_) (fun c_7 => ?_)
                                · have c_7 : 2 ^ k ≤ t := (nI_leI (a := 2 ^ k) (b := t) (by omega) (by omega)).mp c_7
                                  rw [show mix K9 fa t = mix K9 fa (2 ^ k) from by rw [show t = 2 ^ k by omega]] at hP hD
                                  have hP : va_P (dC, dI) vwCl [(mo, .inr (3, [.int (nI 0), .int (nI (2 ^ k)), .ref ma, .ref mb, .int (nI rs), .ref lo, .ref hi, .ref kp, .ref ot, .ref su])), (ma, .inl (cI, 256, .inl (mix K9 fa (2 ^ k)))), (kp, .inl (cI, 256, .inl K9)), (ot, .inl (cI, 256, .inl fo2)), (su, .inl (cI, 256, .inl fs2))] H := hP
                                  have hD : va_D A [(mo, .inr (3, [.int (nI 0), .int (nI (2 ^ k)), .ref ma, .ref mb, .int (nI rs), .ref lo, .ref hi, .ref kp, .ref ot, .ref su])), (ma, .inl (cI, 256, .inl (mix K9 fa (2 ^ k)))), (kp, .inl (cI, 256, .inl K9)), (ot, .inl (cI, 256, .inl fo2)), (su, .inl (cI, 256, .inl fs2))] := hD
                                  refine lv_aload_n hx hb dX4_power_198 rfl (lv_at hl 2 rfl) ?_
                                  refine va_get (D := (dC, dI)) (ci := 3) (v := .ref ma) (C := RX4) (T := TX4) (N := 10) hx hb hts (by decide +kernel) hown hK hP 0 rfl rfl 2 (by decide) (hts (.fieldLink RX4 13 "ThreePrimesModel" "a" "[I") (by decide +kernel)) (fun _ h9 => h9) rfl dX4_power_199 ?_
                                  refine lv_iconst (v := nI 0) hx hb dX4_power_202 (by decide) ?_
                                  refine va_iald hx hb hK hP 1 0 rfl rfl (vp_in_nI (by omega) (by omega)) dX4_power_203 ?_
                                  refine W.eq (g2 := F0 m _ ls [.int ((mix K9 fa (2 ^ k)) 0)]) (by rw [nI_clamp (by omega)]) ?_
                                  refine W.eq (congrArg (fun z => F0 m _ ls (.int z :: _)) (show (mix K9 fa (2 ^ k)) 0 = K9 0 from mix_lt (by omega))) ?_
                                  have hP9 : va_P (dC, dI) vwCl [(mo, .inr (3, [.int (nI 0), .int (nI (2 ^ k)), .ref ma, .ref mb, .int (nI rs), .ref lo, .ref hi, .ref kp, .ref ot, .ref su])), (ma, .inl (cI, 256, .inl (mix K9 fa (2 ^ k)))), (kp, .inl (cI, 256, .inl K9)), (ot, .inl (cI, 256, .inl fo2)), (su, .inl (cI, 256, .inl fs2))] H := hP.sub [0, 1, 2, 3, 4] rfl
                                  have hD9 : va_D A [(mo, .inr (3, [.int (nI 0), .int (nI (2 ^ k)), .ref ma, .ref mb, .int (nI rs), .ref lo, .ref hi, .ref kp, .ref ot, .ref su])), (ma, .inl (cI, 256, .inl (mix K9 fa (2 ^ k)))), (kp, .inl (cI, 256, .inl K9)), (ot, .inl (cI, 256, .inl fo2)), (su, .inl (cI, 256, .inl fs2))] := hD.sub [0, 1, 2, 3, 4] (by decide) rfl
                                  exact W.iret (v := K9 0) hx hb hr (fun tq9 ht hW => ⟨⟨K9 0, (K9, fo2, fs2), rfl, ⟨rfl, tp, htp1, htp, htp9, fun j hj => (hK9 j hj).trans (by rw [Nat.sub_zero])⟩, by rw [ht]; exact hP9, hD9⟩, hS.F ht⟩) hS.2.2 dX4_power_204
                                · have c_7 : ¬ (2 ^ k ≤ t) := fun zq9 => c_7 ((nI_leI (a := 2 ^ k) (b := t) (by omega) (by omega)).mpr zq9)
                                  refine lv_aload_n hx hb dX4_power_180 rfl (lv_at hl 2 rfl) ?_
                                  refine va_get (D := (dC, dI)) (ci := 3) (v := .ref ma) (C := RX4) (T := TX4) (N := 10) hx hb hts (by decide +kernel) hown hK hP 0 rfl rfl 2 (by decide) (hts (.fieldLink RX4 13 "ThreePrimesModel" "a" "[I") (by decide +kernel)) (fun _ h9 => h9) rfl dX4_power_181 ?_
                                  refine lv_iload_n hx hb dX4_power_184 rfl (lv_at hl 0 rfl) ?_
                                  refine lv_aload_n hx hb dX4_power_185 rfl (lv_at hl 2 rfl) ?_
                                  refine va_get (D := (dC, dI)) (ci := 3) (v := .ref kp) (C := RX4) (T := TX4) (N := 10) hx hb hts (by decide +kernel) hown hK hP 0 rfl rfl 7 (by decide) (hts (.fieldLink RX4 27 "ThreePrimesModel" "kept" "[I") (by decide +kernel)) (fun _ h9 => h9) rfl dX4_power_186 ?_
                                  refine lv_iload_n hx hb dX4_power_189 rfl (lv_at hl 0 rfl) ?_
                                  refine va_iald hx hb hK hP 2 0 rfl rfl (vp_in_nI (by omega) (by omega)) dX4_power_190 ?_
                                  refine W.eq (g2 := F0 m _ ls [.int (K9 t), .int (nI t), .ref ma]) (by rw [nI_clamp (by omega)]) ?_
                                  refine va_iast hx hb hK hP hD hS 1 0 rfl rfl (vp_in_nI (by omega) (by omega)) dX4_power_191 (fun H locs hP hD hS => ?_)
                                  rw [nI_clamp (show t < 2 ^ 31 by omega)] at hP hD
                                  have hP : va_P (dC, dI) vwCl [(mo, .inr (3, [.int (nI 0), .int (nI (2 ^ k)), .ref ma, .ref mb, .int (nI rs), .ref lo, .ref hi, .ref kp, .ref ot, .ref su])), (ma, .inl (cI, 256, .inl (upd (mix K9 fa t) t (K9 t)))), (kp, .inl (cI, 256, .inl K9)), (ot, .inl (cI, 256, .inl fo2)), (su, .inl (cI, 256, .inl fs2))] H := hP
                                  have hD : va_D A [(mo, .inr (3, [.int (nI 0), .int (nI (2 ^ k)), .ref ma, .ref mb, .int (nI rs), .ref lo, .ref hi, .ref kp, .ref ot, .ref su])), (ma, .inl (cI, 256, .inl (upd (mix K9 fa t) t (K9 t)))), (kp, .inl (cI, 256, .inl K9)), (ot, .inl (cI, 256, .inl fo2)), (su, .inl (cI, 256, .inl fs2))] := hD
                                  rw [show upd (mix K9 fa t) t (K9 t) = mix K9 fa (t + 1) from mix_s] at hP hD
                                  have hP : va_P (dC, dI) vwCl [(mo, .inr (3, [.int (nI 0), .int (nI (2 ^ k)), .ref ma, .ref mb, .int (nI rs), .ref lo, .ref hi, .ref kp, .ref ot, .ref su])), (ma, .inl (cI, 256, .inl (mix K9 fa (t + 1)))), (kp, .inl (cI, 256, .inl K9)), (ot, .inl (cI, 256, .inl fo2)), (su, .inl (cI, 256, .inl fs2))] H := hP
                                  have hD : va_D A [(mo, .inr (3, [.int (nI 0), .int (nI (2 ^ k)), .ref ma, .ref mb, .int (nI rs), .ref lo, .ref hi, .ref kp, .ref ot, .ref su])), (ma, .inl (cI, 256, .inl (mix K9 fa (t + 1)))), (kp, .inl (cI, 256, .inl K9)), (ot, .inl (cI, 256, .inl fo2)), (su, .inl (cI, 256, .inl fs2))] := hD
                                  refine lv_iinc (v := nI (t + 1)) (lv' := [(3, .int (nI (t + 1))), (1, .int (nI x)), (0, .ref mo)]) hx hb dX4_power_192 hl (k := 0) rfl (nI_add t 1) (by decide) rfl (fun ls hl => ?_)
                                  refine lv_goto (tgt := 172) hx hb dX4_power_195 (by decide) ?_
                                  exact ih_172  (t + 1) (by omega) (by omega) _ _ _ (hP.sub [0, 1, 2, 3, 4] rfl) (hD.sub [0, 1, 2, 3, 4] (by decide) rfl) hS (lv_sub hl [0, 1, 2] rfl)
                            exact key_172 (2 ^ k + 1) 0 (by omega) (by omega) _ _ _ (hP.sub [0, 1, 2, 3, 4] rfl) (hD.sub [0, 1, 2, 3, 4] (by decide) rfl) hS (lv_sub hl [0, 2, 3] rfl)
                          · exact absurd zm_0 c_6
                        · rw [zm_s] at hl
                          have hdv := Nat.div_le_self x (2 ^ v)
                          refine lv_iload_n hx hb dX4_power_79 rfl (lv_at hl 0 rfl) ?_
                          refine lv_if_lt (tgt := 170) hx hb dX4_power_80 (by decide) (fun c_8 => ?_) (fun c_8 => ?_)
                          · have c_8 : v < 0 := (nI_ltI (a := v) (b := 0) (by omega) (by omega)).mp c_8
                            omega
                          · have c_8 : ¬ (v < 0) := fun zq9 => c_8 ((nI_ltI (a := v) (b := 0) (by omega) (by omega)).mpr zq9)
                            refine lv_iconst (v := nI 0) hx hb dX4_power_83 (by decide) ?_
                            rw [show fo2 = mix K9 fo2 0 from (mix_0 _ _).symm] at hP hD
                            have hP : va_P (dC, dI) vwCl [(mo, .inr (3, [.int (nI 0), .int (nI (2 ^ k)), .ref ma, .ref mb, .int (nI rs), .ref lo, .ref hi, .ref kp, .ref ot, .ref su])), (ma, .inl (cI, 256, .inl fa)), (kp, .inl (cI, 256, .inl K9)), (ot, .inl (cI, 256, .inl (mix K9 fo2 0))), (su, .inl (cI, 256, .inl fs2))] H := hP
                            have hD : va_D A [(mo, .inr (3, [.int (nI 0), .int (nI (2 ^ k)), .ref ma, .ref mb, .int (nI rs), .ref lo, .ref hi, .ref kp, .ref ot, .ref su])), (ma, .inl (cI, 256, .inl fa)), (kp, .inl (cI, 256, .inl K9)), (ot, .inl (cI, 256, .inl (mix K9 fo2 0))), (su, .inl (cI, 256, .inl fs2))] := hD
                            refine lv_istore (lv' := [(4, .int (nI 0)), (3, .int (nI v)), (2, .int (nI tp)), (1, .int (nI x)), (0, .ref mo)]) hx hb dX4_power_84 hl (by decide) rfl (fun ls hl => ?_)
                            have key_86 : ∀ (fuel : Nat) (t : Nat), (t ≤ 2 ^ k) → (2 ^ k - t < fuel) → ∀ (H : Heap) (locs : List Loc) (ls : Array Slot), va_P (dC, dI) vwCl [(mo, .inr (3, [.int (nI 0), .int (nI (2 ^ k)), .ref ma, .ref mb, .int (nI rs), .ref lo, .ref hi, .ref kp, .ref ot, .ref su])), (ma, .inl (cI, 256, .inl fa)), (kp, .inl (cI, 256, .inl K9)), (ot, .inl (cI, 256, .inl (mix K9 fo2 t))), (su, .inl (cI, 256, .inl fs2))] H → va_D A [(mo, .inr (3, [.int (nI 0), .int (nI (2 ^ k)), .ref ma, .ref mb, .int (nI rs), .ref lo, .ref hi, .ref kp, .ref ot, .ref su])), (ma, .inl (cI, 256, .inl fa)), (kp, .inl (cI, 256, .inl K9)), (ot, .inl (cI, 256, .inl (mix K9 fo2 t))), (su, .inl (cI, 256, .inl fs2))] → va_S A s.heap H locs → lv_has ls 5 [(4, .int (nI t)), (3, .int (nI v)), (2, .int (nI tp)), (1, .int (nI x)), (0, .ref mo)] → W p l e (headSpec wsX4_power { frames := 1, cells := 0, slots := 0, locals := 24 }).room s m ([.ref mo, .int (nI x)] : List Value).toArray below meth c H locs 0 0 (MQ below (q_X4_power_ok dC dI mo ma mb lo hi kp ot su k rs tv cI fa fk fo fs x  A) ([.ref mo, .int (nI x)] : List Value).toArray s 0 0 A) (F0 m 86 ls []) := by
                              intro fuel
                              induction fuel with
                              | zero => intro t; intros; omega
                              | succ fuel ih_86 =>
                                intro t ht hfu H locs ls hP hD hS hl
                                refine lv_iload hx hb dX4_power_86 (lv_at hl 0 rfl) ?_
                                refine lv_aload_n hx hb dX4_power_88 rfl (lv_at hl 4 rfl) ?_
                                refine va_get (D := (dC, dI)) (ci := 3) (v := .int (nI (2 ^ k))) (C := RX4) (T := TX4) (N := 10) hx hb hts (by decide +kernel) hown hK hP 0 rfl rfl 1 (by decide) (hts (.fieldLink RX4 7 "ThreePrimesModel" "n" "I") (by decide +kernel)) (fun _ h9 => h9) rfl dX4_power_89 ?_
                                refine lv_icmp_ge (tgt := 115) hx hb dX4_power_92 (by decide) (fun c_9 => ?_) (fun c_9 => ?_)
                                · have c_9 : 2 ^ k ≤ t := (nI_leI (a := 2 ^ k) (b := t) (by omega) (by omega)).mp c_9
                                  rw [show mix K9 fo2 t = mix K9 fo2 (2 ^ k) from by rw [show t = 2 ^ k by omega]] at hP hD
                                  have hP : va_P (dC, dI) vwCl [(mo, .inr (3, [.int (nI 0), .int (nI (2 ^ k)), .ref ma, .ref mb, .int (nI rs), .ref lo, .ref hi, .ref kp, .ref ot, .ref su])), (ma, .inl (cI, 256, .inl fa)), (kp, .inl (cI, 256, .inl K9)), (ot, .inl (cI, 256, .inl (mix K9 fo2 (2 ^ k)))), (su, .inl (cI, 256, .inl fs2))] H := hP
                                  have hD : va_D A [(mo, .inr (3, [.int (nI 0), .int (nI (2 ^ k)), .ref ma, .ref mb, .int (nI rs), .ref lo, .ref hi, .ref kp, .ref ot, .ref su])), (ma, .inl (cI, 256, .inl fa)), (kp, .inl (cI, 256, .inl K9)), (ot, .inl (cI, 256, .inl (mix K9 fo2 (2 ^ k)))), (su, .inl (cI, 256, .inl fs2))] := hD
                                  refine lv_aload_n hx hb dX4_power_115 rfl (lv_at hl 4 rfl) ?_
                                  have hPc := hP.sub (ws' := [(mo, .inr (3, [.int (nI 0), .int (nI (2 ^ k)), .ref ma, .ref mb, .int (nI rs), .ref lo, .ref hi, .ref kp, .ref ot, .ref su])), (kp, .inl (cI, 256, .inl K9)), (ot, .inl (cI, 256, .inl (mix K9 fo2 (2 ^ k)))), (su, .inl (cI, 256, .inl fs2))]) [0, 2, 3, 4] rfl
                                  have hDc := hD.sub (ws' := [(mo, .inr (3, [.int (nI 0), .int (nI (2 ^ k)), .ref ma, .ref mb, .int (nI rs), .ref lo, .ref hi, .ref kp, .ref ot, .ref su])), (kp, .inl (cI, 256, .inl K9)), (ot, .inl (cI, 256, .inl (mix K9 fo2 (2 ^ k)))), (su, .inl (cI, 256, .inl fs2))]) [0, 2, 3, 4] (by decide) rfl
                                  have hKc := hK.sub (tys' := [(cI, .int)]) [0] rfl
                                  have hFc := va_free (wc := [(mo, .inr (3, [.int (nI 0), .int (nI (2 ^ k)), .ref ma, .ref mb, .int (nI rs), .ref lo, .ref hi, .ref kp, .ref ot, .ref su])), (kp, .inl (cI, 256, .inl K9)), (ot, .inl (cI, 256, .inl (mix K9 fo2 (2 ^ k)))), (su, .inl (cI, 256, .inl fs2))]) hD hS hA [0, 2, 3, 4] rfl
                                  refine va_callv (va_runV (As := []) (rest := []) ⟨hx, hb, hml, hown, hts⟩ (c_X4_foldKept l dC dI mo ma mb lo hi kp ot su k rs (nI 0) cI K9 (mix K9 fo2 (2 ^ k)) fs2 H.size (by omega) (by omega)) (cwV 0 hts gX4_power_X4_foldKept rfl rfl rfl (by decide +kernel) ⟨Nat.le_of_ble_eq_true rfl, Nat.le_of_ble_eq_true rfl⟩) ⟨fun a U g mk q => by obtain ⟨q0, q1, qP, qK, qD⟩ := q; exact ⟨q0, q1, qP, va_K.moved (u := U) (U := U.calling g mk a) (Vm.Alike.refl U.vm) qK, qD⟩, va_recv hKc hPc (ci := 3) (q0 := 0) rfl rfl, fun U hU hW => ⟨rfl, by rw [hU], by rw [hU]; exact hPc, va_K.moved hW.alike hKc, hDc.weaken (fun _ _ _ _ => trivial)⟩⟩ rfl rfl hl.1 rfl (lv_room (Nat.le_of_ble_eq_true rfl)) dX4_power_116 ⟨Nat.le_of_ble_eq_true rfl, Nat.le_of_ble_eq_true rfl⟩) hS (fun q _ h => hFc q h) hFc (fun u9 t9 H1 locs ht hvm hw hB hz1 hk1 hS => ?_)
                                  obtain ⟨hP1, hD1⟩ := hB
                                  rw [ht] at hP1
                                  try dsimp only at hw
                                  obtain ⟨hP, hD⟩ := va_join (wr := [(ma, .inl (cI, 256, .inl fa))]) (w1 := [(mo, .inr (3, [.int (nI 0), .int (nI (2 ^ k)), .ref ma, .ref mb, .int (nI rs), .ref lo, .ref hi, .ref kp, .ref ot, .ref su])), (kp, .inl (cI, 256, .inl (mix (ai (zrI fs2 (2 ^ k)) (2 ^ k) K9 (mix K9 fo2 (2 ^ k)) (2 ^ k)) K9 (2 ^ k)))), (ot, .inl (cI, 256, .inl (mix K9 fo2 (2 ^ k)))), (su, .inl (cI, 256, .inl (ai (zrI fs2 (2 ^ k)) (2 ^ k) K9 (mix K9 fo2 (2 ^ k)) (2 ^ k))))]) hP hD [0, 2, 3, 4] [1] rfl rfl (by decide) (by decide) hk1 hFc hP1 hD1
                                  generalize H1 = H at hP hS ⊢
                                  have hP : va_P (dC, dI) vwCl [(ma, .inl (cI, 256, .inl fa)), (mo, .inr (3, [.int (nI 0), .int (nI (2 ^ k)), .ref ma, .ref mb, .int (nI rs), .ref lo, .ref hi, .ref kp, .ref ot, .ref su])), (kp, .inl (cI, 256, .inl (mix (ai (zrI fs2 (2 ^ k)) (2 ^ k) K9 (mix K9 fo2 (2 ^ k)) (2 ^ k)) K9 (2 ^ k)))), (ot, .inl (cI, 256, .inl (mix K9 fo2 (2 ^ k)))), (su, .inl (cI, 256, .inl (ai (zrI fs2 (2 ^ k)) (2 ^ k) K9 (mix K9 fo2 (2 ^ k)) (2 ^ k))))] H := hP
                                  have hD : va_D A [(ma, .inl (cI, 256, .inl fa)), (mo, .inr (3, [.int (nI 0), .int (nI (2 ^ k)), .ref ma, .ref mb, .int (nI rs), .ref lo, .ref hi, .ref kp, .ref ot, .ref su])), (kp, .inl (cI, 256, .inl (mix (ai (zrI fs2 (2 ^ k)) (2 ^ k) K9 (mix K9 fo2 (2 ^ k)) (2 ^ k)) K9 (2 ^ k)))), (ot, .inl (cI, 256, .inl (mix K9 fo2 (2 ^ k)))), (su, .inl (cI, 256, .inl (ai (zrI fs2 (2 ^ k)) (2 ^ k) K9 (mix K9 fo2 (2 ^ k)) (2 ^ k))))] := hD
                                  clear hPc hDc hKc hFc hP1 hD1 hk1 hz1 hvm ht
                                  clear hw
                                  obtain ⟨K1, eK1⟩ : ∃ f : Nat → Int32, f = mix (ai (zrI fs2 (2 ^ k)) (2 ^ k) K9 (mix K9 fo2 (2 ^ k)) (2 ^ k)) K9 (2 ^ k) := ⟨_, rfl⟩
                                  rw [← eK1] at hP hD
                                  have hP : va_P (dC, dI) vwCl [(ma, .inl (cI, 256, .inl fa)), (mo, .inr (3, [.int (nI 0), .int (nI (2 ^ k)), .ref ma, .ref mb, .int (nI rs), .ref lo, .ref hi, .ref kp, .ref ot, .ref su])), (kp, .inl (cI, 256, .inl K1)), (ot, .inl (cI, 256, .inl (mix K9 fo2 (2 ^ k)))), (su, .inl (cI, 256, .inl (ai (zrI fs2 (2 ^ k)) (2 ^ k) K9 (mix K9 fo2 (2 ^ k)) (2 ^ k))))] H := hP
                                  have hD : va_D A [(ma, .inl (cI, 256, .inl fa)), (mo, .inr (3, [.int (nI 0), .int (nI (2 ^ k)), .ref ma, .ref mb, .int (nI rs), .ref lo, .ref hi, .ref kp, .ref ot, .ref su])), (kp, .inl (cI, 256, .inl K1)), (ot, .inl (cI, 256, .inl (mix K9 fo2 (2 ^ k)))), (su, .inl (cI, 256, .inl (ai (zrI fs2 (2 ^ k)) (2 ^ k) K9 (mix K9 fo2 (2 ^ k)) (2 ^ k))))] := hD
                                  obtain ⟨S1, eS1⟩ : ∃ f : Nat → Int32, f = ai (zrI fs2 (2 ^ k)) (2 ^ k) K9 (mix K9 fo2 (2 ^ k)) (2 ^ k) := ⟨_, rfl⟩
                                  rw [← eS1] at hP hD
                                  have hP : va_P (dC, dI) vwCl [(ma, .inl (cI, 256, .inl fa)), (mo, .inr (3, [.int (nI 0), .int (nI (2 ^ k)), .ref ma, .ref mb, .int (nI rs), .ref lo, .ref hi, .ref kp, .ref ot, .ref su])), (kp, .inl (cI, 256, .inl K1)), (ot, .inl (cI, 256, .inl (mix K9 fo2 (2 ^ k)))), (su, .inl (cI, 256, .inl S1))] H := hP
                                  have hD : va_D A [(ma, .inl (cI, 256, .inl fa)), (mo, .inr (3, [.int (nI 0), .int (nI (2 ^ k)), .ref ma, .ref mb, .int (nI rs), .ref lo, .ref hi, .ref kp, .ref ot, .ref su])), (kp, .inl (cI, 256, .inl K1)), (ot, .inl (cI, 256, .inl (mix K9 fo2 (2 ^ k)))), (su, .inl (cI, 256, .inl S1))] := hD
                                  obtain ⟨O1, eO1⟩ : ∃ f : Nat → Int32, f = mix K9 fo2 (2 ^ k) := ⟨_, rfl⟩
                                  rw [← eO1] at hP hD
                                  have hP : va_P (dC, dI) vwCl [(ma, .inl (cI, 256, .inl fa)), (mo, .inr (3, [.int (nI 0), .int (nI (2 ^ k)), .ref ma, .ref mb, .int (nI rs), .ref lo, .ref hi, .ref kp, .ref ot, .ref su])), (kp, .inl (cI, 256, .inl K1)), (ot, .inl (cI, 256, .inl O1)), (su, .inl (cI, 256, .inl S1))] H := hP
                                  have hD : va_D A [(ma, .inl (cI, 256, .inl fa)), (mo, .inr (3, [.int (nI 0), .int (nI (2 ^ k)), .ref ma, .ref mb, .int (nI rs), .ref lo, .ref hi, .ref kp, .ref ot, .ref su])), (kp, .inl (cI, 256, .inl K1)), (ot, .inl (cI, 256, .inl O1)), (su, .inl (cI, 256, .inl S1))] := hD
                                  have hK1 : ∀ j, j < 2 ^ k → K1 j = c32 (pwT fa (2 ^ k) x tp (tp - (v + 1))) (pwT fa (2 ^ k) x tp (tp - (v + 1))) (2 ^ k) j := fun j hj => by rw [eK1, mix_lt hj]; exact c32_of (by omega) hK9 (fun i hi => by rw [mix_lt hi]; exact hK9 i hi) j hj
                                  refine lv_iload_n hx hb dX4_power_119 rfl (lv_at hl 3 rfl) ?_
                                  refine lv_iload_n hx hb dX4_power_120 rfl (lv_at hl 1 rfl) ?_
                                  refine lv_ishr hx hb dX4_power_121 ?_
                                  refine W.eq (congrArg (fun z => F0 m _ ls (.int z :: _)) (show (nI x) >>> ((nI v) &&& 31) = nI (x / 2 ^ v) from zz_shr (by omega) (by omega))) ?_
                                  refine lv_iconst (v := nI 1) hx hb dX4_power_122 (by decide) ?_
                                  refine lv_iand hx hb dX4_power_123 ?_
                                  refine W.eq (congrArg (fun z => F0 m _ ls (.int z :: _)) (show (nI (x / 2 ^ v)) &&& (nI 1) = nI (x / 2 ^ v % 2) from zz_and1 (by omega))) ?_
                                  refine lv_iconst (v := nI 1) hx hb dX4_power_124 (by decide) ?_
                                  refine lv_icmp_ne (tgt := 164) hx hb dX4_power_125 (by decide) (fun c_10 => ?_) (fun c_10 => ?_)
                                  · have c_10 : ¬ (x / 2 ^ v % 2 = 1) := fun zq9 => c_10 ((nI_eq (a := x / 2 ^ v % 2) (b := 1) (by omega) (by omega)).mpr zq9)
                                    have c_bit := c_10
                                    refine lv_iinc (v := zm v) (lv' := [(3, .int (zm v)), (4, .int (nI t)), (2, .int (nI tp)), (1, .int (nI x)), (0, .ref mo)]) hx hb dX4_power_164 hl (k := 1) rfl (rfl) (by decide) rfl (fun ls hl => ?_)
                                    refine lv_goto (tgt := 79) hx hb dX4_power_167 (by decide) ?_
                                    exact ih_79  v K1 O1 S1 (by omega) (pwT_n (by omega) c_bit hK1) (by omega) _ _ _ (hP.sub [1, 0, 2, 3, 4] rfl) (hD.sub [1, 0, 2, 3, 4] (by decide) rfl) hS (lv_sub hl [0, 2, 3, 4] rfl)
                                  · have c_10 : x / 2 ^ v % 2 = 1 := (nI_eq (a := x / 2 ^ v % 2) (b := 1) (by omega) (by omega)).mp c_10
                                    have c_bit := c_10
                                    refine lv_iconst (v := nI 0) hx hb dX4_power_128 (by decide) ?_
                                    rw [show O1 = mix fa O1 0 from (mix_0 _ _).symm] at hP hD
                                    have hP : va_P (dC, dI) vwCl [(ma, .inl (cI, 256, .inl fa)), (mo, .inr (3, [.int (nI 0), .int (nI (2 ^ k)), .ref ma, .ref mb, .int (nI rs), .ref lo, .ref hi, .ref kp, .ref ot, .ref su])), (kp, .inl (cI, 256, .inl K1)), (ot, .inl (cI, 256, .inl (mix fa O1 0))), (su, .inl (cI, 256, .inl S1))] H := hP
                                    have hD : va_D A [(ma, .inl (cI, 256, .inl fa)), (mo, .inr (3, [.int (nI 0), .int (nI (2 ^ k)), .ref ma, .ref mb, .int (nI rs), .ref lo, .ref hi, .ref kp, .ref ot, .ref su])), (kp, .inl (cI, 256, .inl K1)), (ot, .inl (cI, 256, .inl (mix fa O1 0))), (su, .inl (cI, 256, .inl S1))] := hD
                                    refine lv_istore (lv' := [(4, .int (nI 0)), (3, .int (nI v)), (2, .int (nI tp)), (1, .int (nI x)), (0, .ref mo)]) hx hb dX4_power_129 hl (by decide) rfl (fun ls hl => ?_)
                                    have key_131 : ∀ (fuel : Nat) (t : Nat), (t ≤ 2 ^ k) → (2 ^ k - t < fuel) → ∀ (H : Heap) (locs : List Loc) (ls : Array Slot), va_P (dC, dI) vwCl [(mo, .inr (3, [.int (nI 0), .int (nI (2 ^ k)), .ref ma, .ref mb, .int (nI rs), .ref lo, .ref hi, .ref kp, .ref ot, .ref su])), (ma, .inl (cI, 256, .inl fa)), (kp, .inl (cI, 256, .inl K1)), (ot, .inl (cI, 256, .inl (mix fa O1 t))), (su, .inl (cI, 256, .inl S1))] H → va_D A [(mo, .inr (3, [.int (nI 0), .int (nI (2 ^ k)), .ref ma, .ref mb, .int (nI rs), .ref lo, .ref hi, .ref kp, .ref ot, .ref su])), (ma, .inl (cI, 256, .inl fa)), (kp, .inl (cI, 256, .inl K1)), (ot, .inl (cI, 256, .inl (mix fa O1 t))), (su, .inl (cI, 256, .inl S1))] → va_S A s.heap H locs → lv_has ls 5 [(4, .int (nI t)), (3, .int (nI v)), (2, .int (nI tp)), (1, .int (nI x)), (0, .ref mo)] → W p l e (headSpec wsX4_power { frames := 1, cells := 0, slots := 0, locals := 24 }).room s m ([.ref mo, .int (nI x)] : List Value).toArray below meth c H locs 0 0 (MQ below (q_X4_power_ok dC dI mo ma mb lo hi kp ot su k rs tv cI fa fk fo fs x  A) ([.ref mo, .int (nI x)] : List Value).toArray s 0 0 A) (F0 m 131 ls []) := by
                                      intro fuel
                                      induction fuel with
                                      | zero => intro t; intros; omega
                                      | succ fuel ih_131 =>
                                        intro t ht hfu H locs ls hP hD hS hl
                                        refine lv_iload hx hb dX4_power_131 (lv_at hl 0 rfl) ?_
                                        refine lv_aload_n hx hb dX4_power_133 rfl (lv_at hl 4 rfl) ?_
                                        refine va_get (D := (dC, dI)) (ci := 3) (v := .int (nI (2 ^ k))) (C := RX4) (T := TX4) (N := 10) hx hb hts (by decide +kernel) hown hK hP 0 rfl rfl 1 (by decide) (hts (.fieldLink RX4 7 "ThreePrimesModel" "n" "I") (by decide +kernel)) (fun _ h9 => h9) rfl dX4_power_134 ?_
                                        refine lv_icmp_ge (tgt := 160) hx hb dX4_power_137 (by decide) (fun c_11 => ?_) (fun c_11 => ?_)
                                        · have c_11 : 2 ^ k ≤ t := (nI_leI (a := 2 ^ k) (b := t) (by omega) (by omega)).mp c_11
                                          rw [show mix fa O1 t = mix fa O1 (2 ^ k) from by rw [show t = 2 ^ k by omega]] at hP hD
                                          have hP : va_P (dC, dI) vwCl [(mo, .inr (3, [.int (nI 0), .int (nI (2 ^ k)), .ref ma, .ref mb, .int (nI rs), .ref lo, .ref hi, .ref kp, .ref ot, .ref su])), (ma, .inl (cI, 256, .inl fa)), (kp, .inl (cI, 256, .inl K1)), (ot, .inl (cI, 256, .inl (mix fa O1 (2 ^ k)))), (su, .inl (cI, 256, .inl S1))] H := hP
                                          have hD : va_D A [(mo, .inr (3, [.int (nI 0), .int (nI (2 ^ k)), .ref ma, .ref mb, .int (nI rs), .ref lo, .ref hi, .ref kp, .ref ot, .ref su])), (ma, .inl (cI, 256, .inl fa)), (kp, .inl (cI, 256, .inl K1)), (ot, .inl (cI, 256, .inl (mix fa O1 (2 ^ k)))), (su, .inl (cI, 256, .inl S1))] := hD
                                          refine lv_aload_n hx hb dX4_power_160 rfl (lv_at hl 4 rfl) ?_
                                          have hPc := hP.sub (ws' := [(mo, .inr (3, [.int (nI 0), .int (nI (2 ^ k)), .ref ma, .ref mb, .int (nI rs), .ref lo, .ref hi, .ref kp, .ref ot, .ref su])), (kp, .inl (cI, 256, .inl K1)), (ot, .inl (cI, 256, .inl (mix fa O1 (2 ^ k)))), (su, .inl (cI, 256, .inl S1))]) [0, 2, 3, 4] rfl
                                          have hDc := hD.sub (ws' := [(mo, .inr (3, [.int (nI 0), .int (nI (2 ^ k)), .ref ma, .ref mb, .int (nI rs), .ref lo, .ref hi, .ref kp, .ref ot, .ref su])), (kp, .inl (cI, 256, .inl K1)), (ot, .inl (cI, 256, .inl (mix fa O1 (2 ^ k)))), (su, .inl (cI, 256, .inl S1))]) [0, 2, 3, 4] (by decide) rfl
                                          have hKc := hK.sub (tys' := [(cI, .int)]) [0] rfl
                                          have hFc := va_free (wc := [(mo, .inr (3, [.int (nI 0), .int (nI (2 ^ k)), .ref ma, .ref mb, .int (nI rs), .ref lo, .ref hi, .ref kp, .ref ot, .ref su])), (kp, .inl (cI, 256, .inl K1)), (ot, .inl (cI, 256, .inl (mix fa O1 (2 ^ k)))), (su, .inl (cI, 256, .inl S1))]) hD hS hA [0, 2, 3, 4] rfl
                                          refine va_callv (va_runV (As := []) (rest := []) ⟨hx, hb, hml, hown, hts⟩ (c_X4_foldKept l dC dI mo ma mb lo hi kp ot su k rs (nI 0) cI K1 (mix fa O1 (2 ^ k)) S1 H.size (by omega) (by omega)) (cwV 0 hts gX4_power_X4_foldKept rfl rfl rfl (by decide +kernel) ⟨Nat.le_of_ble_eq_true rfl, Nat.le_of_ble_eq_true rfl⟩) ⟨fun a U g mk q => by obtain ⟨q0, q1, qP, qK, qD⟩ := q; exact ⟨q0, q1, qP, va_K.moved (u := U) (U := U.calling g mk a) (Vm.Alike.refl U.vm) qK, qD⟩, va_recv hKc hPc (ci := 3) (q0 := 0) rfl rfl, fun U hU hW => ⟨rfl, by rw [hU], by rw [hU]; exact hPc, va_K.moved hW.alike hKc, hDc.weaken (fun _ _ _ _ => trivial)⟩⟩ rfl rfl hl.1 rfl (lv_room (Nat.le_of_ble_eq_true rfl)) dX4_power_161 ⟨Nat.le_of_ble_eq_true rfl, Nat.le_of_ble_eq_true rfl⟩) hS (fun q _ h => hFc q h) hFc (fun u9 t9 H1 locs ht hvm hw hB hz1 hk1 hS => ?_)
                                          obtain ⟨hP1, hD1⟩ := hB
                                          rw [ht] at hP1
                                          try dsimp only at hw
                                          obtain ⟨hP, hD⟩ := va_join (wr := [(ma, .inl (cI, 256, .inl fa))]) (w1 := [(mo, .inr (3, [.int (nI 0), .int (nI (2 ^ k)), .ref ma, .ref mb, .int (nI rs), .ref lo, .ref hi, .ref kp, .ref ot, .ref su])), (kp, .inl (cI, 256, .inl (mix (ai (zrI S1 (2 ^ k)) (2 ^ k) K1 (mix fa O1 (2 ^ k)) (2 ^ k)) K1 (2 ^ k)))), (ot, .inl (cI, 256, .inl (mix fa O1 (2 ^ k)))), (su, .inl (cI, 256, .inl (ai (zrI S1 (2 ^ k)) (2 ^ k) K1 (mix fa O1 (2 ^ k)) (2 ^ k))))]) hP hD [0, 2, 3, 4] [1] rfl rfl (by decide) (by decide) hk1 hFc hP1 hD1
                                          generalize H1 = H at hP hS ⊢
                                          have hP : va_P (dC, dI) vwCl [(ma, .inl (cI, 256, .inl fa)), (mo, .inr (3, [.int (nI 0), .int (nI (2 ^ k)), .ref ma, .ref mb, .int (nI rs), .ref lo, .ref hi, .ref kp, .ref ot, .ref su])), (kp, .inl (cI, 256, .inl (mix (ai (zrI S1 (2 ^ k)) (2 ^ k) K1 (mix fa O1 (2 ^ k)) (2 ^ k)) K1 (2 ^ k)))), (ot, .inl (cI, 256, .inl (mix fa O1 (2 ^ k)))), (su, .inl (cI, 256, .inl (ai (zrI S1 (2 ^ k)) (2 ^ k) K1 (mix fa O1 (2 ^ k)) (2 ^ k))))] H := hP
                                          have hD : va_D A [(ma, .inl (cI, 256, .inl fa)), (mo, .inr (3, [.int (nI 0), .int (nI (2 ^ k)), .ref ma, .ref mb, .int (nI rs), .ref lo, .ref hi, .ref kp, .ref ot, .ref su])), (kp, .inl (cI, 256, .inl (mix (ai (zrI S1 (2 ^ k)) (2 ^ k) K1 (mix fa O1 (2 ^ k)) (2 ^ k)) K1 (2 ^ k)))), (ot, .inl (cI, 256, .inl (mix fa O1 (2 ^ k)))), (su, .inl (cI, 256, .inl (ai (zrI S1 (2 ^ k)) (2 ^ k) K1 (mix fa O1 (2 ^ k)) (2 ^ k))))] := hD
                                          clear hPc hDc hKc hFc hP1 hD1 hk1 hz1 hvm ht
                                          clear hw
                                          obtain ⟨K2, eK2⟩ : ∃ f : Nat → Int32, f = mix (ai (zrI S1 (2 ^ k)) (2 ^ k) K1 (mix fa O1 (2 ^ k)) (2 ^ k)) K1 (2 ^ k) := ⟨_, rfl⟩
                                          rw [← eK2] at hP hD
                                          have hP : va_P (dC, dI) vwCl [(ma, .inl (cI, 256, .inl fa)), (mo, .inr (3, [.int (nI 0), .int (nI (2 ^ k)), .ref ma, .ref mb, .int (nI rs), .ref lo, .ref hi, .ref kp, .ref ot, .ref su])), (kp, .inl (cI, 256, .inl K2)), (ot, .inl (cI, 256, .inl (mix fa O1 (2 ^ k)))), (su, .inl (cI, 256, .inl (ai (zrI S1 (2 ^ k)) (2 ^ k) K1 (mix fa O1 (2 ^ k)) (2 ^ k))))] H := hP
                                          have hD : va_D A [(ma, .inl (cI, 256, .inl fa)), (mo, .inr (3, [.int (nI 0), .int (nI (2 ^ k)), .ref ma, .ref mb, .int (nI rs), .ref lo, .ref hi, .ref kp, .ref ot, .ref su])), (kp, .inl (cI, 256, .inl K2)), (ot, .inl (cI, 256, .inl (mix fa O1 (2 ^ k)))), (su, .inl (cI, 256, .inl (ai (zrI S1 (2 ^ k)) (2 ^ k) K1 (mix fa O1 (2 ^ k)) (2 ^ k))))] := hD
                                          obtain ⟨S2, eS2⟩ : ∃ f : Nat → Int32, f = ai (zrI S1 (2 ^ k)) (2 ^ k) K1 (mix fa O1 (2 ^ k)) (2 ^ k) := ⟨_, rfl⟩
                                          rw [← eS2] at hP hD
                                          have hP : va_P (dC, dI) vwCl [(ma, .inl (cI, 256, .inl fa)), (mo, .inr (3, [.int (nI 0), .int (nI (2 ^ k)), .ref ma, .ref mb, .int (nI rs), .ref lo, .ref hi, .ref kp, .ref ot, .ref su])), (kp, .inl (cI, 256, .inl K2)), (ot, .inl (cI, 256, .inl (mix fa O1 (2 ^ k)))), (su, .inl (cI, 256, .inl S2))] H := hP
                                          have hD : va_D A [(ma, .inl (cI, 256, .inl fa)), (mo, .inr (3, [.int (nI 0), .int (nI (2 ^ k)), .ref ma, .ref mb, .int (nI rs), .ref lo, .ref hi, .ref kp, .ref ot, .ref su])), (kp, .inl (cI, 256, .inl K2)), (ot, .inl (cI, 256, .inl (mix fa O1 (2 ^ k)))), (su, .inl (cI, 256, .inl S2))] := hD
                                          obtain ⟨O2, eO2⟩ : ∃ f : Nat → Int32, f = mix fa O1 (2 ^ k) := ⟨_, rfl⟩
                                          rw [← eO2] at hP hD
                                          have hP : va_P (dC, dI) vwCl [(ma, .inl (cI, 256, .inl fa)), (mo, .inr (3, [.int (nI 0), .int (nI (2 ^ k)), .ref ma, .ref mb, .int (nI rs), .ref lo, .ref hi, .ref kp, .ref ot, .ref su])), (kp, .inl (cI, 256, .inl K2)), (ot, .inl (cI, 256, .inl O2)), (su, .inl (cI, 256, .inl S2))] H := hP
                                          have hD : va_D A [(ma, .inl (cI, 256, .inl fa)), (mo, .inr (3, [.int (nI 0), .int (nI (2 ^ k)), .ref ma, .ref mb, .int (nI rs), .ref lo, .ref hi, .ref kp, .ref ot, .ref su])), (kp, .inl (cI, 256, .inl K2)), (ot, .inl (cI, 256, .inl O2)), (su, .inl (cI, 256, .inl S2))] := hD
                                          have hK2 : ∀ j, j < 2 ^ k → K2 j = c32 (c32 (pwT fa (2 ^ k) x tp (tp - (v + 1))) (pwT fa (2 ^ k) x tp (tp - (v + 1))) (2 ^ k)) fa (2 ^ k) j := fun j hj => by rw [eK2, mix_lt hj]; exact c32_of (by omega) hK1 (fun i hi => mix_lt hi) j hj
                                          refine lv_iinc (v := zm v) (lv' := [(3, .int (zm v)), (4, .int (nI t)), (2, .int (nI tp)), (1, .int (nI x)), (0, .ref mo)]) hx hb dX4_power_164 hl (k := 1) rfl (rfl) (by decide) rfl (fun ls hl => ?_)
                                          refine lv_goto (tgt := 79) hx hb dX4_power_167 (by decide) ?_
                                          exact ih_79  v K2 O2 S2 (by omega) (pwT_s (by omega) c_bit hK2) (by omega) _ _ _ (hP.sub [1, 0, 2, 3, 4] rfl) (hD.sub [1, 0, 2, 3, 4] (by decide) rfl) hS (lv_sub hl [0, 2, 3, 4] rfl)
                                        · have c_11 : ¬ (2 ^ k ≤ t) := fun zq9 => c_11 ((nI_leI (a := 2 ^ k) (b := t) (by omega) (by omega)).mpr zq9)
                                          refine lv_aload_n hx hb dX4_power_140 rfl (lv_at hl 4 rfl) ?_
                                          refine va_get (D := (dC, dI)) (ci := 3) (v := .ref ot) (C := RX4) (T := TX4) (N := 10) hx hb hts (by decide +kernel) hown hK hP 0 rfl rfl 8 (by decide) (hts (.fieldLink RX4 30 "ThreePrimesModel" "other" "[I") (by decide +kernel)) (fun _ h9 => h9) rfl dX4_power_141 ?_
                                          refine lv_iload hx hb dX4_power_144 (lv_at hl 0 rfl) ?_
                                          refine lv_aload_n hx hb dX4_power_146 rfl (lv_at hl 4 rfl) ?_
                                          refine va_get (D := (dC, dI)) (ci := 3) (v := .ref ma) (C := RX4) (T := TX4) (N := 10) hx hb hts (by decide +kernel) hown hK hP 0 rfl rfl 2 (by decide) (hts (.fieldLink RX4 13 "ThreePrimesModel" "a" "[I") (by decide +kernel)) (fun _ h9 => h9) rfl dX4_power_147 ?_
                                          refine lv_iload hx hb dX4_power_150 (lv_at hl 0 rfl) ?_
                                          refine va_iald hx hb hK hP 1 0 rfl rfl (vp_in_nI (by omega) (by omega)) dX4_power_152 ?_
                                          refine W.eq (g2 := F0 m _ ls [.int (fa t), .int (nI t), .ref ot]) (by rw [nI_clamp (by omega)]) ?_
                                          refine va_iast hx hb hK hP hD hS 3 0 rfl rfl (vp_in_nI (by omega) (by omega)) dX4_power_153 (fun H locs hP hD hS => ?_)
                                          rw [nI_clamp (show t < 2 ^ 31 by omega)] at hP hD
                                          have hP : va_P (dC, dI) vwCl [(mo, .inr (3, [.int (nI 0), .int (nI (2 ^ k)), .ref ma, .ref mb, .int (nI rs), .ref lo, .ref hi, .ref kp, .ref ot, .ref su])), (ma, .inl (cI, 256, .inl fa)), (kp, .inl (cI, 256, .inl K1)), (ot, .inl (cI, 256, .inl (upd (mix fa O1 t) t (fa t)))), (su, .inl (cI, 256, .inl S1))] H := hP
                                          have hD : va_D A [(mo, .inr (3, [.int (nI 0), .int (nI (2 ^ k)), .ref ma, .ref mb, .int (nI rs), .ref lo, .ref hi, .ref kp, .ref ot, .ref su])), (ma, .inl (cI, 256, .inl fa)), (kp, .inl (cI, 256, .inl K1)), (ot, .inl (cI, 256, .inl (upd (mix fa O1 t) t (fa t)))), (su, .inl (cI, 256, .inl S1))] := hD
                                          rw [show upd (mix fa O1 t) t (fa t) = mix fa O1 (t + 1) from mix_s] at hP hD
                                          have hP : va_P (dC, dI) vwCl [(mo, .inr (3, [.int (nI 0), .int (nI (2 ^ k)), .ref ma, .ref mb, .int (nI rs), .ref lo, .ref hi, .ref kp, .ref ot, .ref su])), (ma, .inl (cI, 256, .inl fa)), (kp, .inl (cI, 256, .inl K1)), (ot, .inl (cI, 256, .inl (mix fa O1 (t + 1)))), (su, .inl (cI, 256, .inl S1))] H := hP
                                          have hD : va_D A [(mo, .inr (3, [.int (nI 0), .int (nI (2 ^ k)), .ref ma, .ref mb, .int (nI rs), .ref lo, .ref hi, .ref kp, .ref ot, .ref su])), (ma, .inl (cI, 256, .inl fa)), (kp, .inl (cI, 256, .inl K1)), (ot, .inl (cI, 256, .inl (mix fa O1 (t + 1)))), (su, .inl (cI, 256, .inl S1))] := hD
                                          refine lv_iinc (v := nI (t + 1)) (lv' := [(4, .int (nI (t + 1))), (3, .int (nI v)), (2, .int (nI tp)), (1, .int (nI x)), (0, .ref mo)]) hx hb dX4_power_154 hl (k := 0) rfl (nI_add t 1) (by decide) rfl (fun ls hl => ?_)
                                          refine lv_goto (tgt := 131) hx hb dX4_power_157 (by decide) ?_
                                          exact ih_131  (t + 1) (by omega) (by omega) _ _ _ (hP.sub [0, 1, 2, 3, 4] rfl) (hD.sub [0, 1, 2, 3, 4] (by decide) rfl) hS (lv_sub hl [0, 1, 2, 3, 4] rfl)
                                    exact key_131 (2 ^ k + 1) 0 (by omega) (by omega) _ _ _ (hP.sub [1, 0, 2, 3, 4] rfl) (hD.sub [1, 0, 2, 3, 4] (by decide) rfl) hS (lv_sub hl [0, 1, 2, 3, 4] rfl)
                                · have c_9 : ¬ (2 ^ k ≤ t) := fun zq9 => c_9 ((nI_leI (a := 2 ^ k) (b := t) (by omega) (by omega)).mpr zq9)
                                  refine lv_aload_n hx hb dX4_power_95 rfl (lv_at hl 4 rfl) ?_
                                  refine va_get (D := (dC, dI)) (ci := 3) (v := .ref ot) (C := RX4) (T := TX4) (N := 10) hx hb hts (by decide +kernel) hown hK hP 0 rfl rfl 8 (by decide) (hts (.fieldLink RX4 30 "ThreePrimesModel" "other" "[I") (by decide +kernel)) (fun _ h9 => h9) rfl dX4_power_96 ?_
                                  refine lv_iload hx hb dX4_power_99 (lv_at hl 0 rfl) ?_
                                  refine lv_aload_n hx hb dX4_power_101 rfl (lv_at hl 4 rfl) ?_
                                  refine va_get (D := (dC, dI)) (ci := 3) (v := .ref kp) (C := RX4) (T := TX4) (N := 10) hx hb hts (by decide +kernel) hown hK hP 0 rfl rfl 7 (by decide) (hts (.fieldLink RX4 27 "ThreePrimesModel" "kept" "[I") (by decide +kernel)) (fun _ h9 => h9) rfl dX4_power_102 ?_
                                  refine lv_iload hx hb dX4_power_105 (lv_at hl 0 rfl) ?_
                                  refine va_iald hx hb hK hP 2 0 rfl rfl (vp_in_nI (by omega) (by omega)) dX4_power_107 ?_
                                  refine W.eq (g2 := F0 m _ ls [.int (K9 t), .int (nI t), .ref ot]) (by rw [nI_clamp (by omega)]) ?_
                                  refine va_iast hx hb hK hP hD hS 3 0 rfl rfl (vp_in_nI (by omega) (by omega)) dX4_power_108 (fun H locs hP hD hS => ?_)
                                  rw [nI_clamp (show t < 2 ^ 31 by omega)] at hP hD
                                  have hP : va_P (dC, dI) vwCl [(mo, .inr (3, [.int (nI 0), .int (nI (2 ^ k)), .ref ma, .ref mb, .int (nI rs), .ref lo, .ref hi, .ref kp, .ref ot, .ref su])), (ma, .inl (cI, 256, .inl fa)), (kp, .inl (cI, 256, .inl K9)), (ot, .inl (cI, 256, .inl (upd (mix K9 fo2 t) t (K9 t)))), (su, .inl (cI, 256, .inl fs2))] H := hP
                                  have hD : va_D A [(mo, .inr (3, [.int (nI 0), .int (nI (2 ^ k)), .ref ma, .ref mb, .int (nI rs), .ref lo, .ref hi, .ref kp, .ref ot, .ref su])), (ma, .inl (cI, 256, .inl fa)), (kp, .inl (cI, 256, .inl K9)), (ot, .inl (cI, 256, .inl (upd (mix K9 fo2 t) t (K9 t)))), (su, .inl (cI, 256, .inl fs2))] := hD
                                  rw [show upd (mix K9 fo2 t) t (K9 t) = mix K9 fo2 (t + 1) from mix_s] at hP hD
                                  have hP : va_P (dC, dI) vwCl [(mo, .inr (3, [.int (nI 0), .int (nI (2 ^ k)), .ref ma, .ref mb, .int (nI rs), .ref lo, .ref hi, .ref kp, .ref ot, .ref su])), (ma, .inl (cI, 256, .inl fa)), (kp, .inl (cI, 256, .inl K9)), (ot, .inl (cI, 256, .inl (mix K9 fo2 (t + 1)))), (su, .inl (cI, 256, .inl fs2))] H := hP
                                  have hD : va_D A [(mo, .inr (3, [.int (nI 0), .int (nI (2 ^ k)), .ref ma, .ref mb, .int (nI rs), .ref lo, .ref hi, .ref kp, .ref ot, .ref su])), (ma, .inl (cI, 256, .inl fa)), (kp, .inl (cI, 256, .inl K9)), (ot, .inl (cI, 256, .inl (mix K9 fo2 (t + 1)))), (su, .inl (cI, 256, .inl fs2))] := hD
                                  refine lv_iinc (v := nI (t + 1)) (lv' := [(4, .int (nI (t + 1))), (3, .int (nI v)), (2, .int (nI tp)), (1, .int (nI x)), (0, .ref mo)]) hx hb dX4_power_109 hl (k := 0) rfl (nI_add t 1) (by decide) rfl (fun ls hl => ?_)
                                  refine lv_goto (tgt := 86) hx hb dX4_power_112 (by decide) ?_
                                  exact ih_86  (t + 1) (by omega) (by omega) _ _ _ (hP.sub [0, 1, 2, 3, 4] rfl) (hD.sub [0, 1, 2, 3, 4] (by decide) rfl) hS (lv_sub hl [0, 1, 2, 3, 4] rfl)
                            exact key_86 (2 ^ k + 1) 0 (by omega) (by omega) _ _ _ (hP.sub [0, 1, 2, 3, 4] rfl) (hD.sub [0, 1, 2, 3, 4] (by decide) rfl) hS (lv_sub hl [0, 1, 2, 3, 4] rfl)
                    exact key_79 (tp + 1) tp (mix fa fk (2 ^ k)) fo fs (by omega) (fun j hj => by rw [mix_lt hj, Nat.sub_self]; rfl) (by omega) _ _ _ (hP.sub [0, 1, 2, 3, 4] rfl) (hD.sub [0, 1, 2, 3, 4] (by decide) rfl) hS (lv_sub hl [0, 1, 2, 3] rfl)
                  · have c_5 : x / 2 ^ tp % 2 = 0 := (nI_eq (a := x / 2 ^ tp % 2) (b := 0) (by omega) (by omega)).mp c_5
                    have c_bit0 : x / 2 ^ tp % 2 = 0 := c_5
                    have hlow := bit_low htp zx1 c_bit0
                    obtain ⟨v9, rfl⟩ : ∃ v, tp = v + 1 := ⟨tp - 1, by omega⟩
                    refine lv_iinc (v := nI v9) (lv' := [(2, .int (nI v9)), (1, .int (nI x)), (0, .ref mo)]) hx hb dX4_power_69 hl (k := 0) rfl (pk_m1 v9) (by decide) rfl (fun ls hl => ?_)
                    refine lv_goto (tgt := 61) hx hb dX4_power_72 (by decide) ?_
                    exact ih_61  v9 (hlow.1) (by omega) (by omega) _ _ _ (hP.sub [0, 1, 2, 3, 4] rfl) (hD.sub [0, 1, 2, 3, 4] (by decide) rfl) hS (lv_sub hl [0, 1, 2] rfl)
              exact key_61 10 9 (by omega) (by omega) (by omega) _ _ _ (hP.sub [0, 1, 2, 3, 4] rfl) (hD.sub [0, 1, 2, 3, 4] (by decide) rfl) hS (lv_sub hl [0, 1, 2] rfl)
            · have c_4 : ¬ (2 ^ k ≤ t) := fun zq9 => c_4 ((nI_leI (a := 2 ^ k) (b := t) (by omega) (by omega)).mpr zq9)
              refine lv_aload_n hx hb dX4_power_40 rfl (lv_at hl 2 rfl) ?_
              refine va_get (D := (dC, dI)) (ci := 3) (v := .ref kp) (C := RX4) (T := TX4) (N := 10) hx hb hts (by decide +kernel) hown hK hP 0 rfl rfl 7 (by decide) (hts (.fieldLink RX4 27 "ThreePrimesModel" "kept" "[I") (by decide +kernel)) (fun _ h9 => h9) rfl dX4_power_41 ?_
              refine lv_iload_n hx hb dX4_power_44 rfl (lv_at hl 0 rfl) ?_
              refine lv_aload_n hx hb dX4_power_45 rfl (lv_at hl 2 rfl) ?_
              refine va_get (D := (dC, dI)) (ci := 3) (v := .ref ma) (C := RX4) (T := TX4) (N := 10) hx hb hts (by decide +kernel) hown hK hP 0 rfl rfl 2 (by decide) (hts (.fieldLink RX4 13 "ThreePrimesModel" "a" "[I") (by decide +kernel)) (fun _ h9 => h9) rfl dX4_power_46 ?_
              refine lv_iload_n hx hb dX4_power_49 rfl (lv_at hl 0 rfl) ?_
              refine va_iald hx hb hK hP 1 0 rfl rfl (vp_in_nI (by omega) (by omega)) dX4_power_50 ?_
              refine W.eq (g2 := F0 m _ ls [.int (fa t), .int (nI t), .ref kp]) (by rw [nI_clamp (by omega)]) ?_
              refine va_iast hx hb hK hP hD hS 2 0 rfl rfl (vp_in_nI (by omega) (by omega)) dX4_power_51 (fun H locs hP hD hS => ?_)
              rw [nI_clamp (show t < 2 ^ 31 by omega)] at hP hD
              have hP : va_P (dC, dI) vwCl [(mo, .inr (3, [.int (nI 0), .int (nI (2 ^ k)), .ref ma, .ref mb, .int (nI rs), .ref lo, .ref hi, .ref kp, .ref ot, .ref su])), (ma, .inl (cI, 256, .inl fa)), (kp, .inl (cI, 256, .inl (upd (mix fa fk t) t (fa t)))), (ot, .inl (cI, 256, .inl fo)), (su, .inl (cI, 256, .inl fs))] H := hP
              have hD : va_D A [(mo, .inr (3, [.int (nI 0), .int (nI (2 ^ k)), .ref ma, .ref mb, .int (nI rs), .ref lo, .ref hi, .ref kp, .ref ot, .ref su])), (ma, .inl (cI, 256, .inl fa)), (kp, .inl (cI, 256, .inl (upd (mix fa fk t) t (fa t)))), (ot, .inl (cI, 256, .inl fo)), (su, .inl (cI, 256, .inl fs))] := hD
              rw [show upd (mix fa fk t) t (fa t) = mix fa fk (t + 1) from mix_s] at hP hD
              have hP : va_P (dC, dI) vwCl [(mo, .inr (3, [.int (nI 0), .int (nI (2 ^ k)), .ref ma, .ref mb, .int (nI rs), .ref lo, .ref hi, .ref kp, .ref ot, .ref su])), (ma, .inl (cI, 256, .inl fa)), (kp, .inl (cI, 256, .inl (mix fa fk (t + 1)))), (ot, .inl (cI, 256, .inl fo)), (su, .inl (cI, 256, .inl fs))] H := hP
              have hD : va_D A [(mo, .inr (3, [.int (nI 0), .int (nI (2 ^ k)), .ref ma, .ref mb, .int (nI rs), .ref lo, .ref hi, .ref kp, .ref ot, .ref su])), (ma, .inl (cI, 256, .inl fa)), (kp, .inl (cI, 256, .inl (mix fa fk (t + 1)))), (ot, .inl (cI, 256, .inl fo)), (su, .inl (cI, 256, .inl fs))] := hD
              refine lv_iinc (v := nI (t + 1)) (lv' := [(2, .int (nI (t + 1))), (1, .int (nI x)), (0, .ref mo)]) hx hb dX4_power_52 hl (k := 0) rfl (nI_add t 1) (by decide) rfl (fun ls hl => ?_)
              refine lv_goto (tgt := 32) hx hb dX4_power_55 (by decide) ?_
              exact ih_32  (t + 1) (by omega) (by omega) _ _ _ (hP.sub [0, 1, 2, 3, 4] rfl) (hD.sub [0, 1, 2, 3, 4] (by decide) rfl) hS (lv_sub hl [0, 1, 2] rfl)
        exact key_32 (2 ^ k + 1) 0 (by omega) (by omega) _ _ _ (hP.sub [0, 1, 2, 3, 4] rfl) (hD.sub [0, 1, 2, 3, 4] (by decide) rfl) hS (lv_sub hl [0, 2, 1] rfl)
      · have c_3 : ¬ (0 ≤ 0) := fun zq9 => c_3 ((nI_leI (a := 0) (b := 0) (by omega) (by omega)).mpr zq9)
        omega
    · have c_2 : ¬ (x ≤ 1000) := fun zq9 => c_2 ((nI_leI (a := x) (b := 1000) (by omega) (by omega)).mpr zq9)
      omega

abbrev q_X4_power_bad (dC : Nat → ClassId) (dI : Nat → Nat → Nat) (mo ma mb lo hi kp ot su k rs : Nat) (tv : Int32) (i : Int32) (A : Nat → Prop) : Array Value → State → Outcome → State → Prop := va_Qi (fun (r : Int32) (u : Unit) => True) (fun u t => va_P (dC, dI) vwCl [(mo, .inr (3, [.int (nI 1), .int (nI (2 ^ k)), .ref ma, .ref mb, .int (nI rs), .ref lo, .ref hi, .ref kp, .ref ot, .ref su]))] t.heap ∧ va_D A [(mo, .inr (3, [.int (nI 1), .int (nI (2 ^ k)), .ref ma, .ref mb, .int (nI rs), .ref lo, .ref hi, .ref kp, .ref ot, .ref su]))]) A
set_option maxHeartbeats 4000000 in
set_option maxRecDepth 100000 in
theorem c_X4_power_bad (l : Launch) (dC : Nat → ClassId) (dI : Nat → Nat → Nat) (mo ma mb lo hi kp ot su k rs : Nat) (tv : Int32) (i : Int32) (sz : Nat) (hbad : i < nI 1 ∨ nI 1000 < i) : Met l yX4_power wsX4_power ({ frames := 0, cells := 0, slots := 0, locals := 0 }) (va_Pc [.ref mo, .int i] (fun U => U.heap.size = sz ∧ va_P (dC, dI) vwCl [(mo, .inr (3, [.int tv, .int (nI (2 ^ k)), .ref ma, .ref mb, .int (nI rs), .ref lo, .ref hi, .ref kp, .ref ot, .ref su]))] U.heap ∧ va_K (dC, dI) vwCl [] U ∧ va_D (fun _ => True) [(mo, .inr (3, [.int tv, .int (nI (2 ^ k)), .ref ma, .ref mb, .int (nI rs), .ref lo, .ref hi, .ref kp, .ref ot, .ref su]))])) (q_X4_power_bad dC dI mo ma mb lo hi kp ot su k rs tv i (va_A [(mo, .inr (3, [.int tv, .int (nI (2 ^ k)), .ref ma, .ref mb, .int (nI rs), .ref lo, .ref hi, .ref kp, .ref ot, .ref su]))] sz)) 0 0 (va_A [(mo, .inr (3, [.int tv, .int (nI (2 ^ k)), .ref ma, .ref mb, .int (nI rs), .ref lo, .ref hi, .ref kp, .ref ot, .ref su]))] sz) := by
  refine Met.ofW (cc := cX4_power) (maxL := 5) (ret := (some .int)) (by decide) rfl ?_
  intro p e s m args below meth c s₁ B hml hv
  obtain ⟨rfl, hsz, hP, hK, hD0⟩ := hv
  have hx := B.exec
  have hb := B.bytes
  have hr := B.returns
  have hts := atoms_spec (ws := wsX4_power) B.pre
  have hown : s.vm.findClass RX4 = some m.cls := findClass_of_methodNamed B.named
  have hlocks := B.notSynchronized
  subst hsz
  have hD := hD0.self (sz := s.heap.size)
  generalize hAe : va_A [(mo, .inr (3, [.int tv, .int (nI (2 ^ k)), .ref ma, .ref mb, .int (nI rs), .ref lo, .ref hi, .ref kp, .ref ot, .ref su]))] s.heap.size = A at hD ⊢
  have hA : ∀ q : Nat, s.heap.size ≤ q → A q := fun q h => by rw [← hAe]; exact Or.inr h
  have hS : va_S A s.heap s.heap [] := va_S.rf
  have hP : va_P (dC, dI) vwCl [(mo, .inr (3, [.int tv, .int (nI (2 ^ k)), .ref ma, .ref mb, .int (nI rs), .ref lo, .ref hi, .ref kp, .ref ot, .ref su]))] s.heap := hP
  have hl := lv_entry (([.ref mo, .int i] : List Value)) (n := 5) (Nat.le_of_ble_eq_true rfl)
  rw [lg_entry_eq]
  generalize (lg_sl (([.ref mo, .int i] : List Value)) ++ List.replicate (5 - (lg_sl (([.ref mo, .int i] : List Value))).length) Slot.unset).toArray = ls at hl ⊢
  have hl : lv_has ls 5 [(0, .ref mo), (1, .int i)] := hl
  obtain ⟨H, hHe⟩ : ∃ H : Heap, H = s.heap := ⟨_, rfl⟩
  rw [← hHe] at hP
  have hS : va_S A s.heap H [] := by rw [hHe]; exact hS
  obtain ⟨locs, hlo⟩ : ∃ L : List Loc, L = [] := ⟨_, rfl⟩
  rw [← hlo] at hS ⊢
  rw [← hHe]
  refine lv_aload_n hx hb dX4_power_0 rfl (lv_at hl 0 rfl) ?_
  refine lv_iload_n hx hb dX4_power_1 rfl (lv_at hl 1 rfl) ?_
  refine lv_iconst (v := nI 1) hx hb dX4_power_2 (by decide) ?_
  refine lv_icmp_lt (tgt := 13) hx hb dX4_power_3 (by decide) (fun c_1 => ?_) (fun c_1 => ?_)
  · refine lv_iconst (v := nI 1) hx hb dX4_power_13 (by decide) ?_
    refine lv_goto (tgt := 18) hx hb dX4_power_14 (by decide) ?_
    refine va_put (D := (dC, dI)) (ci := 3) (v := .int (nI 1)) (ty := .int) (C := RX4) (T := TX4) (N := 10) hx hb hts (by decide +kernel) tyX4 tyX4_ok nmX4 hown hK hP hD hS 0 rfl rfl 0 (by decide) (hts (.fieldLink RX4 36 "ThreePrimesModel" "thrown" "I") (by decide +kernel)) (fun _ h9 => h9) rfl (by decide +kernel) rfl rfl (Nat.le_of_ble_eq_true rfl) dX4_power_18 (fun H locs hP hD hS => ?_)
    have hP : va_P (dC, dI) vwCl [(mo, .inr (3, [.int (nI 1), .int (nI (2 ^ k)), .ref ma, .ref mb, .int (nI rs), .ref lo, .ref hi, .ref kp, .ref ot, .ref su]))] H := hP
    have hD : va_D A [(mo, .inr (3, [.int (nI 1), .int (nI (2 ^ k)), .ref ma, .ref mb, .int (nI rs), .ref lo, .ref hi, .ref kp, .ref ot, .ref su]))] := hD
    refine lv_aload_n hx hb dX4_power_21 rfl (lv_at hl 0 rfl) ?_
    refine va_get (D := (dC, dI)) (ci := 3) (v := .int (nI 1)) (C := RX4) (T := TX4) (N := 10) hx hb hts (by decide +kernel) hown hK hP 0 rfl rfl 0 (by decide) (hts (.fieldLink RX4 36 "ThreePrimesModel" "thrown" "I") (by decide +kernel)) (fun _ h9 => h9) rfl dX4_power_22 ?_
    refine lv_if_le (tgt := 30) hx hb dX4_power_25 (by decide) (fun c_2 => ?_) (fun c_2 => ?_)
    · have c_2 : 1 ≤ 0 := (nI_leI (a := 1) (b := 0) (by omega) (by omega)).mp c_2
      omega
    · have c_2 : ¬ (1 ≤ 0) := fun zq9 => c_2 ((nI_leI (a := 1) (b := 0) (by omega) (by omega)).mpr zq9)
      refine lv_iconst (v := nI 0) hx hb dX4_power_28 (by decide) ?_
      have hP9 : va_P (dC, dI) vwCl [(mo, .inr (3, [.int (nI 1), .int (nI (2 ^ k)), .ref ma, .ref mb, .int (nI rs), .ref lo, .ref hi, .ref kp, .ref ot, .ref su]))] H := hP.sub [0] rfl
      have hD9 : va_D A [(mo, .inr (3, [.int (nI 1), .int (nI (2 ^ k)), .ref ma, .ref mb, .int (nI rs), .ref lo, .ref hi, .ref kp, .ref ot, .ref su]))] := hD.sub [0] (by decide) rfl
      exact W.iret (v := nI 0) hx hb hr (fun tq9 ht hW => ⟨⟨nI 0, (), rfl, trivial, by rw [ht]; exact hP9, hD9⟩, hS.F ht⟩) hS.2.2 dX4_power_29
  · refine lv_iload_n hx hb dX4_power_6 rfl (lv_at hl 1 rfl) ?_
    refine lv_sipush (v := nI 1000) hx hb dX4_power_7 (by decide) ?_
    refine lv_icmp_le (tgt := 17) hx hb dX4_power_10 (by decide) (fun c_3 => ?_) (fun c_3 => ?_)
    · exact absurd c_3 (Int32.not_le.mpr (hbad.resolve_left c_1))
    · refine lv_iconst (v := nI 1) hx hb dX4_power_13 (by decide) ?_
      refine lv_goto (tgt := 18) hx hb dX4_power_14 (by decide) ?_
      refine va_put (D := (dC, dI)) (ci := 3) (v := .int (nI 1)) (ty := .int) (C := RX4) (T := TX4) (N := 10) hx hb hts (by decide +kernel) tyX4 tyX4_ok nmX4 hown hK hP hD hS 0 rfl rfl 0 (by decide) (hts (.fieldLink RX4 36 "ThreePrimesModel" "thrown" "I") (by decide +kernel)) (fun _ h9 => h9) rfl (by decide +kernel) rfl rfl (Nat.le_of_ble_eq_true rfl) dX4_power_18 (fun H locs hP hD hS => ?_)
      have hP : va_P (dC, dI) vwCl [(mo, .inr (3, [.int (nI 1), .int (nI (2 ^ k)), .ref ma, .ref mb, .int (nI rs), .ref lo, .ref hi, .ref kp, .ref ot, .ref su]))] H := hP
      have hD : va_D A [(mo, .inr (3, [.int (nI 1), .int (nI (2 ^ k)), .ref ma, .ref mb, .int (nI rs), .ref lo, .ref hi, .ref kp, .ref ot, .ref su]))] := hD
      refine lv_aload_n hx hb dX4_power_21 rfl (lv_at hl 0 rfl) ?_
      refine va_get (D := (dC, dI)) (ci := 3) (v := .int (nI 1)) (C := RX4) (T := TX4) (N := 10) hx hb hts (by decide +kernel) hown hK hP 0 rfl rfl 0 (by decide) (hts (.fieldLink RX4 36 "ThreePrimesModel" "thrown" "I") (by decide +kernel)) (fun _ h9 => h9) rfl dX4_power_22 ?_
      refine lv_if_le (tgt := 30) hx hb dX4_power_25 (by decide) (fun c_4 => ?_) (fun c_4 => ?_)
      · have c_4 : 1 ≤ 0 := (nI_leI (a := 1) (b := 0) (by omega) (by omega)).mp c_4
        omega
      · have c_4 : ¬ (1 ≤ 0) := fun zq9 => c_4 ((nI_leI (a := 1) (b := 0) (by omega) (by omega)).mpr zq9)
        refine lv_iconst (v := nI 0) hx hb dX4_power_28 (by decide) ?_
        have hP9 : va_P (dC, dI) vwCl [(mo, .inr (3, [.int (nI 1), .int (nI (2 ^ k)), .ref ma, .ref mb, .int (nI rs), .ref lo, .ref hi, .ref kp, .ref ot, .ref su]))] H := hP.sub [0] rfl
        have hD9 : va_D A [(mo, .inr (3, [.int (nI 1), .int (nI (2 ^ k)), .ref ma, .ref mb, .int (nI rs), .ref lo, .ref hi, .ref kp, .ref ot, .ref su]))] := hD.sub [0] (by decide) rfl
        exact W.iret (v := nI 0) hx hb hr (fun tq9 ht hW => ⟨⟨nI 0, (), rfl, trivial, by rw [ht]; exact hP9, hD9⟩, hS.F ht⟩) hS.2.2 dX4_power_29
