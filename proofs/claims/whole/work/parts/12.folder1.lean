abbrev q_X0_listRootPowers (dC : Nat → ClassId) (dI : Nat → Nat → Nat) (cJ : ClassId) (hh lf rt rp : Nat) (G : Nat → Int) (w : Int) (n P : Nat) (A : Nat → Prop) : Array Value → State → Outcome → State → Prop := va_Qv (fun (u : Unit) => True) (fun u t => va_P (dC, dI) vwCl [(hh, .inr (0, [.ref lf, .ref rt, .ref rp])), (rp, .inl (cJ, 256, .inr (.inl (fun j => lI ((rpw G w P n) j)))))] t.heap ∧ va_D A [(hh, .inr (0, [.ref lf, .ref rt, .ref rp])), (rp, .inl (cJ, 256, .inr (.inl (fun j => lI ((rpw G w P n) j)))))]) A
set_option maxHeartbeats 4000000 in
set_option maxRecDepth 100000 in
theorem c_X0_listRootPowers (l : Launch) (dC : Nat → ClassId) (dI : Nat → Nat → Nat) (cJ : ClassId) (hh lf rt rp : Nat) (G : Nat → Int) (w : Int) (n P : Nat) (sz : Nat) (zw0 : 0 ≤ w) (zw1 : w < P) (zn1 : 1 ≤ n) (zn2 : n ≤ 256) (hp1 : 1 < P) (hp2 : P ≤ 2 ^ 30) : Met l yX0_listRootPowers wsX0_listRootPowers ({ frames := 0, cells := 0, slots := 0, locals := 0 }) (va_Pc [.ref hh, .long (lI w), .int (nI n), .int (nI P)] (fun U => U.heap.size = sz ∧ va_P (dC, dI) vwCl [(hh, .inr (0, [.ref lf, .ref rt, .ref rp])), (rp, .inl (cJ, 256, .inr (.inl (fun j => lI (G j)))))] U.heap ∧ va_K (dC, dI) vwCl [(cJ, .long)] U ∧ va_D (fun _ => True) [(hh, .inr (0, [.ref lf, .ref rt, .ref rp])), (rp, .inl (cJ, 256, .inr (.inl (fun j => lI (G j)))))])) (q_X0_listRootPowers dC dI cJ hh lf rt rp G w n P (va_A [(hh, .inr (0, [.ref lf, .ref rt, .ref rp])), (rp, .inl (cJ, 256, .inr (.inl (fun j => lI (G j)))))] sz)) 0 0 (va_A [(hh, .inr (0, [.ref lf, .ref rt, .ref rp])), (rp, .inl (cJ, 256, .inr (.inl (fun j => lI (G j)))))] sz) := by
  refine Met.ofW (cc := cX0_listRootPowers) (maxL := 6) (ret := none) (by decide) rfl ?_
  intro p e s m args below meth c s₁ B hml hv
  obtain ⟨rfl, hsz, hP, hK, hD0⟩ := hv
  have hx := B.exec
  have hb := B.bytes
  have hr := B.returns
  have hts := atoms_spec (ws := wsX0_listRootPowers) B.pre
  have hown : s.vm.findClass RX0 = some m.cls := findClass_of_methodNamed B.named
  have hlocks := B.notSynchronized
  subst hsz
  have hD := hD0.self (sz := s.heap.size)
  generalize hAe : va_A [(hh, .inr (0, [.ref lf, .ref rt, .ref rp])), (rp, .inl (cJ, 256, .inr (.inl (fun j => lI (G j)))))] s.heap.size = A at hD ⊢
  have hA : ∀ q : Nat, s.heap.size ≤ q → A q := fun q h => by rw [← hAe]; exact Or.inr h
  have hS : va_S A s.heap s.heap [] := va_S.rf
  have hP : va_P (dC, dI) vwCl [(hh, .inr (0, [.ref lf, .ref rt, .ref rp])), (rp, .inl (cJ, 256, .inr (.inl (fun j => lI (G j)))))] s.heap := hP
  have hl := lv_entry (([.ref hh, .long (lI w), .int (nI n), .int (nI P)] : List Value)) (n := 6) (Nat.le_of_ble_eq_true rfl)
  rw [lg_entry_eq]
  generalize (lg_sl (([.ref hh, .long (lI w), .int (nI n), .int (nI P)] : List Value)) ++ List.replicate (6 - (lg_sl (([.ref hh, .long (lI w), .int (nI n), .int (nI P)] : List Value))).length) Slot.unset).toArray = ls at hl ⊢
  have hl : lv_has ls 6 [(0, .ref hh), (1, .long (lI w)), (3, .int (nI n)), (4, .int (nI P))] := hl
  obtain ⟨H, hHe⟩ : ∃ H : Heap, H = s.heap := ⟨_, rfl⟩
  rw [← hHe] at hP
  have hS : va_S A s.heap H [] := by rw [hHe]; exact hS
  obtain ⟨locs, hlo⟩ : ∃ L : List Loc, L = [] := ⟨_, rfl⟩
  rw [← hlo] at hS ⊢
  rw [← hHe]
  refine lv_aload_n hx hb dX0_listRootPowers_0 rfl (lv_at hl 0 rfl) ?_
  refine va_get (D := (dC, dI)) (ci := 0) (v := .ref rp) (C := RX0) (T := TX0) (N := 3) hx hb hts (by decide +kernel) hown hK hP 0 rfl rfl 2 (by decide) (hts (.fieldLink RX0 18 "ThreePrimes$Folder" "rootPowers" "[J") (by decide +kernel)) (fun _ h9 => h9) rfl dX0_listRootPowers_1 ?_
  refine lv_iconst (v := nI 0) hx hb dX0_listRootPowers_4 (by decide) ?_
  refine lv_lconst (v := lI 1) hx hb dX0_listRootPowers_5 (by decide) ?_
  refine va_last hx hb hK hP hD hS 1 0 rfl rfl (vp_in_nI (by omega) (by omega)) dX0_listRootPowers_6 (fun H locs hP hD hS => ?_)
  rw [nI_clamp (show 0 < 2 ^ 31 by omega)] at hP hD
  rw [upI_l] at hP hD
  have hP : va_P (dC, dI) vwCl [(hh, .inr (0, [.ref lf, .ref rt, .ref rp])), (rp, .inl (cJ, 256, .inr (.inl (fun j => lI ((upI G 0 1) j)))))] H := hP
  have hD : va_D A [(hh, .inr (0, [.ref lf, .ref rt, .ref rp])), (rp, .inl (cJ, 256, .inr (.inl (fun j => lI ((upI G 0 1) j)))))] := hD
  rw [show upI G 0 1 = rpw G w P 1 from rpw_1 G w (by omega)] at hP hD
  have hP : va_P (dC, dI) vwCl [(hh, .inr (0, [.ref lf, .ref rt, .ref rp])), (rp, .inl (cJ, 256, .inr (.inl (fun j => lI ((rpw G w P 1) j)))))] H := hP
  have hD : va_D A [(hh, .inr (0, [.ref lf, .ref rt, .ref rp])), (rp, .inl (cJ, 256, .inr (.inl (fun j => lI ((rpw G w P 1) j)))))] := hD
  refine lv_iconst (v := nI 1) hx hb dX0_listRootPowers_7 (by decide) ?_
  refine lv_istore (lv' := [(5, .int (nI 1)), (0, .ref hh), (1, .long (lI w)), (3, .int (nI n)), (4, .int (nI P))]) hx hb dX0_listRootPowers_8 hl (by decide) rfl (fun ls hl => ?_)
  have key_10 : ∀ (fuel : Nat) (i : Nat), (1 ≤ i) → (i ≤ n) → (n - i < fuel) → ∀ (H : Heap) (locs : List Loc) (ls : Array Slot), va_P (dC, dI) vwCl [(hh, .inr (0, [.ref lf, .ref rt, .ref rp])), (rp, .inl (cJ, 256, .inr (.inl (fun j => lI ((rpw G w P i) j)))))] H → va_D A [(hh, .inr (0, [.ref lf, .ref rt, .ref rp])), (rp, .inl (cJ, 256, .inr (.inl (fun j => lI ((rpw G w P i) j)))))] → va_S A s.heap H locs → lv_has ls 6 [(5, .int (nI i)), (4, .int (nI P)), (3, .int (nI n)), (1, .long (lI w)), (0, .ref hh)] → W p l e (headSpec wsX0_listRootPowers { frames := 0, cells := 0, slots := 0, locals := 0 }).room s m ([.ref hh, .long (lI w), .int (nI n), .int (nI P)] : List Value).toArray below meth c H locs 0 0 (MQ below (q_X0_listRootPowers dC dI cJ hh lf rt rp G w n P  A) ([.ref hh, .long (lI w), .int (nI n), .int (nI P)] : List Value).toArray s 0 0 A) (F0 m 10 ls []) := by
    intro fuel
    induction fuel with
    | zero => intro i; intros; omega
    | succ fuel ih_10 =>
      intro i hi1 hi2 hfu H locs ls hP hD hS hl
      refine lv_iload hx hb dX0_listRootPowers_10 (lv_at hl 0 rfl) ?_
      refine lv_iload_n hx hb dX0_listRootPowers_12 rfl (lv_at hl 2 rfl) ?_
      refine lv_icmp_ge (tgt := 44) hx hb dX0_listRootPowers_13 (by decide) (fun c_1 => ?_) (fun c_1 => ?_)
      · have c_1 : n ≤ i := (nI_leI (a := n) (b := i) (by omega) (by omega)).mp c_1
        rw [show rpw G w P i = rpw G w P n from by rw [show i = n by omega]] at hP hD
        have hP : va_P (dC, dI) vwCl [(hh, .inr (0, [.ref lf, .ref rt, .ref rp])), (rp, .inl (cJ, 256, .inr (.inl (fun j => lI ((rpw G w P n) j)))))] H := hP
        have hD : va_D A [(hh, .inr (0, [.ref lf, .ref rt, .ref rp])), (rp, .inl (cJ, 256, .inr (.inl (fun j => lI ((rpw G w P n) j)))))] := hD
        have hP9 : va_P (dC, dI) vwCl [(hh, .inr (0, [.ref lf, .ref rt, .ref rp])), (rp, .inl (cJ, 256, .inr (.inl (fun j => lI ((rpw G w P n) j)))))] H := hP.sub [0, 1] rfl
        have hD9 : va_D A [(hh, .inr (0, [.ref lf, .ref rt, .ref rp])), (rp, .inl (cJ, 256, .inr (.inl (fun j => lI ((rpw G w P n) j)))))] := hD.sub [0, 1] (by decide) rfl
        exact W.vret hx hb hr (fun t ht hW => ⟨⟨(), rfl, trivial, by rw [ht]; exact hP9, hD9⟩, hS.F ht⟩) hS.2.2 dX0_listRootPowers_44
      · have c_1 : ¬ (n ≤ i) := fun zq9 => c_1 ((nI_leI (a := n) (b := i) (by omega) (by omega)).mpr zq9)
        refine lv_aload_n hx hb dX0_listRootPowers_16 rfl (lv_at hl 4 rfl) ?_
        refine va_get (D := (dC, dI)) (ci := 0) (v := .ref rp) (C := RX0) (T := TX0) (N := 3) hx hb hts (by decide +kernel) hown hK hP 0 rfl rfl 2 (by decide) (hts (.fieldLink RX0 18 "ThreePrimes$Folder" "rootPowers" "[J") (by decide +kernel)) (fun _ h9 => h9) rfl dX0_listRootPowers_17 ?_
        refine lv_iload hx hb dX0_listRootPowers_20 (lv_at hl 0 rfl) ?_
        refine lv_aload_n hx hb dX0_listRootPowers_22 rfl (lv_at hl 4 rfl) ?_
        refine va_get (D := (dC, dI)) (ci := 0) (v := .ref rp) (C := RX0) (T := TX0) (N := 3) hx hb hts (by decide +kernel) hown hK hP 0 rfl rfl 2 (by decide) (hts (.fieldLink RX0 18 "ThreePrimes$Folder" "rootPowers" "[J") (by decide +kernel)) (fun _ h9 => h9) rfl dX0_listRootPowers_23 ?_
        refine lv_iload hx hb dX0_listRootPowers_26 (lv_at hl 0 rfl) ?_
        refine lv_iconst (v := nI 1) hx hb dX0_listRootPowers_28 (by decide) ?_
        refine lv_isub hx hb dX0_listRootPowers_29 ?_
        refine W.eq (congrArg (fun z => F0 m _ ls (.int z :: _)) (show (nI i) - (nI 1) = nI (i - 1) from pk_sub (by omega))) ?_
        refine va_lald hx hb hK hP 1 0 rfl rfl (vp_in_nI (by omega) (by omega)) dX0_listRootPowers_30 ?_
        refine W.eq (g2 := F0 m _ ls [.long (lI ((rpw G w P i) (i - 1))), .int (nI i), .ref rp]) (by rw [nI_clamp (by omega)]) ?_
        refine W.eq (congrArg (fun z => F0 m _ ls (.long z :: _)) (show lI ((rpw G w P i) (i - 1)) = lI (w ^ (i - 1) % (P : Int)) from congrArg lI (rpw_p (by omega)))) ?_
        refine lv_lload_n hx hb dX0_listRootPowers_31 rfl (lv_at hl 3 rfl) ?_
        have b1 := emod_rng (w ^ (i - 1)) (show (0 : Int) < P by omega)
        have b2 := mul_b30 b1.1 b1.2 zw0 zw1 (by omega)
        refine lv_lmul hx hb dX0_listRootPowers_32 ?_
        refine W.eq (congrArg (fun z => F0 m _ ls (.long z :: _)) (show lI (w ^ (i - 1) % (P : Int)) * lI w = lI ((w ^ (i - 1) % (P : Int)) * w) from lI_mul (w ^ (i - 1) % (P : Int)) w)) ?_
        refine lv_iload hx hb dX0_listRootPowers_33 (lv_at hl 1 rfl) ?_
        refine lv_i2l (v := lI ((P : Nat) : Int)) hx hb dX0_listRootPowers_35 (nI_lI (by omega)) ?_
        refine lv_lrem hx hb dX0_listRootPowers_36 (fun zq9 => absurd ((lI_eq (b := 0) (by omega) (by omega) (by omega) (by omega)).mp zq9) (by omega)) ?_
        refine W.eq (congrArg (fun z => F0 m _ ls (.long z :: _)) (show lI ((w ^ (i - 1) % (P : Int)) * w) - lI ((w ^ (i - 1) % (P : Int)) * w) / lI ((P : Nat) : Int) * lI ((P : Nat) : Int) = lI (((w ^ (i - 1) % (P : Int)) * w) % ((P : Nat) : Int)) from lI_rem0 (by omega) (by omega) (by omega) (by omega))) ?_
        refine va_last hx hb hK hP hD hS 1 0 rfl rfl (vp_in_nI (by omega) (by omega)) dX0_listRootPowers_37 (fun H locs hP hD hS => ?_)
        rw [nI_clamp (show i < 2 ^ 31 by omega)] at hP hD
        rw [upI_l] at hP hD
        have hP : va_P (dC, dI) vwCl [(hh, .inr (0, [.ref lf, .ref rt, .ref rp])), (rp, .inl (cJ, 256, .inr (.inl (fun j => lI ((upI (rpw G w P i) i (((w ^ (i - 1) % (P : Int)) * w) % ((P : Nat) : Int))) j)))))] H := hP
        have hD : va_D A [(hh, .inr (0, [.ref lf, .ref rt, .ref rp])), (rp, .inl (cJ, 256, .inr (.inl (fun j => lI ((upI (rpw G w P i) i (((w ^ (i - 1) % (P : Int)) * w) % ((P : Nat) : Int))) j)))))] := hD
        rw [show upI (rpw G w P i) i (((w ^ (i - 1) % (P : Int)) * w) % ((P : Nat) : Int)) = rpw G w P (i + 1) from rpw_s (by omega)] at hP hD
        have hP : va_P (dC, dI) vwCl [(hh, .inr (0, [.ref lf, .ref rt, .ref rp])), (rp, .inl (cJ, 256, .inr (.inl (fun j => lI ((rpw G w P (i + 1)) j)))))] H := hP
        have hD : va_D A [(hh, .inr (0, [.ref lf, .ref rt, .ref rp])), (rp, .inl (cJ, 256, .inr (.inl (fun j => lI ((rpw G w P (i + 1)) j)))))] := hD
        refine lv_iinc (v := nI (i + 1)) (lv' := [(5, .int (nI (i + 1))), (4, .int (nI P)), (3, .int (nI n)), (1, .long (lI w)), (0, .ref hh)]) hx hb dX0_listRootPowers_38 hl (k := 0) rfl (nI_add i 1) (by decide) rfl (fun ls hl => ?_)
        refine lv_goto (tgt := 10) hx hb dX0_listRootPowers_41 (by decide) ?_
        exact ih_10  (i + 1) (by omega) (by omega) (by omega) _ _ _ (hP.sub [0, 1] rfl) (hD.sub [0, 1] (by decide) rfl) hS (lv_sub hl [0, 1, 2, 3, 4] rfl)
  exact key_10 (n + 1) 1 (by omega) (by omega) (by omega) _ _ _ (hP.sub [0, 1] rfl) (hD.sub [0, 1] (by decide) rfl) hS (lv_sub hl [0, 4, 3, 2, 1] rfl)

abbrev q_X0_splitBlock (dC : Nat → ClassId) (dI : Nat → Nat → Nat) (cJ : ClassId) (hh lf rt rp ra : Nat) (F G : Nat → Int) (a h d P : Nat) (A : Nat → Prop) : Array Value → State → Outcome → State → Prop := va_Qv (fun (u : Unit) => True) (fun u t => va_P (dC, dI) vwCl [(hh, .inr (0, [.ref lf, .ref rt, .ref rp])), (ra, .inl (cJ, 512, .inr (.inl (fun j => lI ((spB F G a h d P h) j))))), (rp, .inl (cJ, 256, .inr (.inl (fun j => lI (G j)))))] t.heap ∧ va_D A [(hh, .inr (0, [.ref lf, .ref rt, .ref rp])), (ra, .inl (cJ, 512, .inr (.inl (fun j => lI ((spB F G a h d P h) j))))), (rp, .inl (cJ, 256, .inr (.inl (fun j => lI (G j)))))]) A
set_option maxHeartbeats 4000000 in
set_option maxRecDepth 100000 in
theorem c_X0_splitBlock (l : Launch) (dC : Nat → ClassId) (dI : Nat → Nat → Nat) (cJ : ClassId) (hh lf rt rp ra : Nat) (F G : Nat → Int) (a h d P : Nat) (sz : Nat) (zF : inR F (a + 2 * h) P) (zG : inR G (h * d) P) (za : a + 2 * h ≤ 512) (zd : 0 < d) (zhd : h * d ≤ 256) (hp1 : 1 < P) (hp2 : P ≤ 2 ^ 30) : Met l yX0_splitBlock wsX0_splitBlock ({ frames := 0, cells := 0, slots := 0, locals := 0 }) (va_Pc [.ref hh, .ref ra, .int (nI a), .int (nI h), .int (nI d), .int (nI P)] (fun U => U.heap.size = sz ∧ va_P (dC, dI) vwCl [(hh, .inr (0, [.ref lf, .ref rt, .ref rp])), (ra, .inl (cJ, 512, .inr (.inl (fun j => lI (F j))))), (rp, .inl (cJ, 256, .inr (.inl (fun j => lI (G j)))))] U.heap ∧ va_K (dC, dI) vwCl [(cJ, .long)] U ∧ va_D (fun _ => True) [(hh, .inr (0, [.ref lf, .ref rt, .ref rp])), (ra, .inl (cJ, 512, .inr (.inl (fun j => lI (F j))))), (rp, .inl (cJ, 256, .inr (.inl (fun j => lI (G j)))))])) (q_X0_splitBlock dC dI cJ hh lf rt rp ra F G a h d P (va_A [(hh, .inr (0, [.ref lf, .ref rt, .ref rp])), (ra, .inl (cJ, 512, .inr (.inl (fun j => lI (F j))))), (rp, .inl (cJ, 256, .inr (.inl (fun j => lI (G j)))))] sz)) 0 0 (va_A [(hh, .inr (0, [.ref lf, .ref rt, .ref rp])), (ra, .inl (cJ, 512, .inr (.inl (fun j => lI (F j))))), (rp, .inl (cJ, 256, .inr (.inl (fun j => lI (G j)))))] sz) := by
  refine Met.ofW (cc := cX0_splitBlock) (maxL := 13) (ret := none) (by decide) rfl ?_
  intro p e s m args below meth c s₁ B hml hv
  obtain ⟨rfl, hsz, hP, hK, hD0⟩ := hv
  have hx := B.exec
  have hb := B.bytes
  have hr := B.returns
  have hts := atoms_spec (ws := wsX0_splitBlock) B.pre
  have hown : s.vm.findClass RX0 = some m.cls := findClass_of_methodNamed B.named
  have hlocks := B.notSynchronized
  subst hsz
  have hD := hD0.self (sz := s.heap.size)
  generalize hAe : va_A [(hh, .inr (0, [.ref lf, .ref rt, .ref rp])), (ra, .inl (cJ, 512, .inr (.inl (fun j => lI (F j))))), (rp, .inl (cJ, 256, .inr (.inl (fun j => lI (G j)))))] s.heap.size = A at hD ⊢
  have hA : ∀ q : Nat, s.heap.size ≤ q → A q := fun q h => by rw [← hAe]; exact Or.inr h
  have hS : va_S A s.heap s.heap [] := va_S.rf
  have hP : va_P (dC, dI) vwCl [(hh, .inr (0, [.ref lf, .ref rt, .ref rp])), (ra, .inl (cJ, 512, .inr (.inl (fun j => lI (F j))))), (rp, .inl (cJ, 256, .inr (.inl (fun j => lI (G j)))))] s.heap := hP
  have hl := lv_entry (([.ref hh, .ref ra, .int (nI a), .int (nI h), .int (nI d), .int (nI P)] : List Value)) (n := 13) (Nat.le_of_ble_eq_true rfl)
  rw [lg_entry_eq]
  generalize (lg_sl (([.ref hh, .ref ra, .int (nI a), .int (nI h), .int (nI d), .int (nI P)] : List Value)) ++ List.replicate (13 - (lg_sl (([.ref hh, .ref ra, .int (nI a), .int (nI h), .int (nI d), .int (nI P)] : List Value))).length) Slot.unset).toArray = ls at hl ⊢
  have hl : lv_has ls 13 [(0, .ref hh), (1, .ref ra), (2, .int (nI a)), (3, .int (nI h)), (4, .int (nI d)), (5, .int (nI P))] := hl
  obtain ⟨H, hHe⟩ : ∃ H : Heap, H = s.heap := ⟨_, rfl⟩
  rw [← hHe] at hP
  have hS : va_S A s.heap H [] := by rw [hHe]; exact hS
  obtain ⟨locs, hlo⟩ : ∃ L : List Loc, L = [] := ⟨_, rfl⟩
  rw [← hlo] at hS ⊢
  rw [← hHe]
  refine lv_iconst (v := nI 0) hx hb dX0_splitBlock_0 (by decide) ?_
  rw [← spB_0 F G a h d P] at hP hD
  have hP : va_P (dC, dI) vwCl [(hh, .inr (0, [.ref lf, .ref rt, .ref rp])), (ra, .inl (cJ, 512, .inr (.inl (fun j => lI ((spB F G a h d P 0) j))))), (rp, .inl (cJ, 256, .inr (.inl (fun j => lI (G j)))))] H := hP
  have hD : va_D A [(hh, .inr (0, [.ref lf, .ref rt, .ref rp])), (ra, .inl (cJ, 512, .inr (.inl (fun j => lI ((spB F G a h d P 0) j))))), (rp, .inl (cJ, 256, .inr (.inl (fun j => lI (G j)))))] := hD
  refine lv_istore (lv' := [(6, .int (nI 0)), (0, .ref hh), (1, .ref ra), (2, .int (nI a)), (3, .int (nI h)), (4, .int (nI d)), (5, .int (nI P))]) hx hb dX0_splitBlock_1 hl (by decide) rfl (fun ls hl => ?_)
  have key_3 : ∀ (fuel : Nat) (t : Nat), (t ≤ h) → (h - t < fuel) → ∀ (H : Heap) (locs : List Loc) (ls : Array Slot), va_P (dC, dI) vwCl [(hh, .inr (0, [.ref lf, .ref rt, .ref rp])), (ra, .inl (cJ, 512, .inr (.inl (fun j => lI ((spB F G a h d P t) j))))), (rp, .inl (cJ, 256, .inr (.inl (fun j => lI (G j)))))] H → va_D A [(hh, .inr (0, [.ref lf, .ref rt, .ref rp])), (ra, .inl (cJ, 512, .inr (.inl (fun j => lI ((spB F G a h d P t) j))))), (rp, .inl (cJ, 256, .inr (.inl (fun j => lI (G j)))))] → va_S A s.heap H locs → lv_has ls 13 [(6, .int (nI t)), (5, .int (nI P)), (4, .int (nI d)), (3, .int (nI h)), (2, .int (nI a)), (1, .ref ra), (0, .ref hh)] → W p l e (headSpec wsX0_splitBlock { frames := 0, cells := 0, slots := 0, locals := 0 }).room s m ([.ref hh, .ref ra, .int (nI a), .int (nI h), .int (nI d), .int (nI P)] : List Value).toArray below meth c H locs 0 0 (MQ below (q_X0_splitBlock dC dI cJ hh lf rt rp ra F G a h d P  A) ([.ref hh, .ref ra, .int (nI a), .int (nI h), .int (nI d), .int (nI P)] : List Value).toArray s 0 0 A) (F0 m 3 ls []) := by
    intro fuel
    induction fuel with
    | zero => intro t; intros; omega
    | succ fuel ih_3 =>
      intro t ht hfu H locs ls hP hD hS hl
      refine lv_iload hx hb dX0_splitBlock_3 (lv_at hl 0 rfl) ?_
      refine lv_iload_n hx hb dX0_splitBlock_5 rfl (lv_at hl 3 rfl) ?_
      refine lv_icmp_ge (tgt := 98) hx hb dX0_splitBlock_6 (by decide) (fun c_1 => ?_) (fun c_1 => ?_)
      · have c_1 : h ≤ t := (nI_leI (a := h) (b := t) (by omega) (by omega)).mp c_1
        rw [show spB F G a h d P t = spB F G a h d P h from by rw [show t = h by omega]] at hP hD
        have hP : va_P (dC, dI) vwCl [(hh, .inr (0, [.ref lf, .ref rt, .ref rp])), (ra, .inl (cJ, 512, .inr (.inl (fun j => lI ((spB F G a h d P h) j))))), (rp, .inl (cJ, 256, .inr (.inl (fun j => lI (G j)))))] H := hP
        have hD : va_D A [(hh, .inr (0, [.ref lf, .ref rt, .ref rp])), (ra, .inl (cJ, 512, .inr (.inl (fun j => lI ((spB F G a h d P h) j))))), (rp, .inl (cJ, 256, .inr (.inl (fun j => lI (G j)))))] := hD
        have hP9 : va_P (dC, dI) vwCl [(hh, .inr (0, [.ref lf, .ref rt, .ref rp])), (ra, .inl (cJ, 512, .inr (.inl (fun j => lI ((spB F G a h d P h) j))))), (rp, .inl (cJ, 256, .inr (.inl (fun j => lI (G j)))))] H := hP.sub [0, 1, 2] rfl
        have hD9 : va_D A [(hh, .inr (0, [.ref lf, .ref rt, .ref rp])), (ra, .inl (cJ, 512, .inr (.inl (fun j => lI ((spB F G a h d P h) j))))), (rp, .inl (cJ, 256, .inr (.inl (fun j => lI (G j)))))] := hD.sub [0, 1, 2] (by decide) rfl
        exact W.vret hx hb hr (fun t ht hW => ⟨⟨(), rfl, trivial, by rw [ht]; exact hP9, hD9⟩, hS.F ht⟩) hS.2.2 dX0_splitBlock_98
      · have c_1 : ¬ (h ≤ t) := fun zq9 => c_1 ((nI_leI (a := h) (b := t) (by omega) (by omega)).mpr zq9)
        have ht2 : t < h := by omega
        have f1 := zF (a + t) (by omega)
        have f2 := zF (a + h + t) (by omega)
        have hix := idx_lt ht2 zd zhd
        have hix2 := idx_lt ht2 zd (Nat.le_refl _)
        have g1 := zG (t * d) (by omega)
        have b1 := mul_b31 (a := F (a + t) - F (a + h + t) + P) (b := G (t * d)) (c := P) (by omega) (by omega) (by omega) (by omega) (by omega)
        refine lv_aload_n hx hb dX0_splitBlock_9 rfl (lv_at hl 5 rfl) ?_
        refine lv_iload_n hx hb dX0_splitBlock_10 rfl (lv_at hl 4 rfl) ?_
        refine lv_iload hx hb dX0_splitBlock_11 (lv_at hl 0 rfl) ?_
        refine lv_iadd hx hb dX0_splitBlock_13 ?_
        refine W.eq (congrArg (fun z => F0 m _ ls (.int z :: _)) (show (nI a) + (nI t) = nI (a + t) from nI_add a t)) ?_
        refine va_lald hx hb hK hP 1 0 rfl rfl (vp_in_nI (by omega) (by omega)) dX0_splitBlock_14 ?_
        refine W.eq (g2 := F0 m _ ls [.long (lI ((spB F G a h d P t) (a + t)))]) (by rw [nI_clamp (by omega)]) ?_
        refine W.eq (congrArg (fun z => F0 m _ ls (.long z :: _)) (show lI ((spB F G a h d P t) (a + t)) = lI (F (a + t)) from congrArg lI (spB_a ht2))) ?_
        refine lv_lstore (lv' := [(7, .long (lI (F (a + t)))), (6, .int (nI t)), (5, .int (nI P)), (4, .int (nI d)), (3, .int (nI h)), (2, .int (nI a)), (1, .ref ra), (0, .ref hh)]) hx hb dX0_splitBlock_15 hl (by decide) rfl (fun ls hl => ?_)
        refine lv_aload_n hx hb dX0_splitBlock_17 rfl (lv_at hl 6 rfl) ?_
        refine lv_iload_n hx hb dX0_splitBlock_18 rfl (lv_at hl 5 rfl) ?_
        refine lv_iload_n hx hb dX0_splitBlock_19 rfl (lv_at hl 4 rfl) ?_
        refine lv_iadd hx hb dX0_splitBlock_20 ?_
        refine W.eq (congrArg (fun z => F0 m _ ls (.int z :: _)) (show (nI a) + (nI h) = nI (a + h) from nI_add a h)) ?_
        refine lv_iload hx hb dX0_splitBlock_21 (lv_at hl 1 rfl) ?_
        refine lv_iadd hx hb dX0_splitBlock_23 ?_
        refine W.eq (congrArg (fun z => F0 m _ ls (.int z :: _)) (show (nI (a + h)) + (nI t) = nI (a + h + t) from nI_add (a + h) t)) ?_
        refine va_lald hx hb hK hP 1 0 rfl rfl (vp_in_nI (by omega) (by omega)) dX0_splitBlock_24 ?_
        refine W.eq (g2 := F0 m _ ls [.long (lI ((spB F G a h d P t) (a + h + t)))]) (by rw [nI_clamp (by omega)]) ?_
        refine W.eq (congrArg (fun z => F0 m _ ls (.long z :: _)) (show lI ((spB F G a h d P t) (a + h + t)) = lI (F (a + h + t)) from congrArg lI (spB_b ht2))) ?_
        refine lv_lstore (lv' := [(9, .long (lI (F (a + h + t)))), (7, .long (lI (F (a + t)))), (6, .int (nI t)), (5, .int (nI P)), (4, .int (nI d)), (3, .int (nI h)), (2, .int (nI a)), (1, .ref ra), (0, .ref hh)]) hx hb dX0_splitBlock_25 hl (by decide) rfl (fun ls hl => ?_)
        refine lv_lload hx hb dX0_splitBlock_27 (lv_at hl 1 rfl) ?_
        refine lv_lload hx hb dX0_splitBlock_29 (lv_at hl 0 rfl) ?_
        refine lv_ladd hx hb dX0_splitBlock_31 ?_
        refine W.eq (congrArg (fun z => F0 m _ ls (.long z :: _)) (show lI (F (a + t)) + lI (F (a + h + t)) = lI ((F (a + t)) + (F (a + h + t))) from lI_add (F (a + t)) (F (a + h + t)))) ?_
        refine lv_lstore (lv' := [(11, .long (lI ((F (a + t)) + (F (a + h + t))))), (9, .long (lI (F (a + h + t)))), (7, .long (lI (F (a + t)))), (6, .int (nI t)), (5, .int (nI P)), (4, .int (nI d)), (3, .int (nI h)), (2, .int (nI a)), (1, .ref ra), (0, .ref hh)]) hx hb dX0_splitBlock_32 hl (by decide) rfl (fun ls hl => ?_)
        refine lv_aload_n hx hb dX0_splitBlock_34 rfl (lv_at hl 8 rfl) ?_
        refine lv_iload_n hx hb dX0_splitBlock_35 rfl (lv_at hl 7 rfl) ?_
        refine lv_iload hx hb dX0_splitBlock_36 (lv_at hl 3 rfl) ?_
        refine lv_iadd hx hb dX0_splitBlock_38 ?_
        refine W.eq (congrArg (fun z => F0 m _ ls (.int z :: _)) (show (nI a) + (nI t) = nI (a + t) from nI_add a t)) ?_
        refine lv_lload hx hb dX0_splitBlock_39 (lv_at hl 0 rfl) ?_
        refine lv_iload hx hb dX0_splitBlock_41 (lv_at hl 4 rfl) ?_
        refine lv_i2l (v := lI ((P : Nat) : Int)) hx hb dX0_splitBlock_43 (nI_lI (by omega)) ?_
        refine W.lcmp hx hb dX0_splitBlock_44 ?_
        refine lv_if_lt (tgt := 57) hx hb dX0_splitBlock_45 (by decide) (fun c_2 => ?_) (fun c_2 => ?_)
        · have c_2 : ((F (a + t)) + (F (a + h + t))) < ((P : Nat) : Int) := ((lg_cmp_lt _ _).trans (lI_lt (a := (F (a + t)) + (F (a + h + t))) (b := ((P : Nat) : Int)) (by omega) (by omega) (by omega) (by omega))).mp c_2
          refine lv_lload hx hb dX0_splitBlock_57 (lv_at hl 0 rfl) ?_
          refine W.eq (congrArg (fun z => F0 m _ ls (.long z :: _)) (show lI ((F (a + t)) + (F (a + h + t))) = lI ((F (a + t) + F (a + h + t)) % (P : Int)) from congrArg lI (Int.emod_eq_of_lt (by omega) (by omega)).symm)) ?_
          refine va_last hx hb hK hP hD hS 1 0 rfl rfl (vp_in_nI (by omega) (by omega)) dX0_splitBlock_59 (fun H locs hP hD hS => ?_)
          rw [nI_clamp (show a + t < 2 ^ 31 by omega)] at hP hD
          rw [upI_l] at hP hD
          have hP : va_P (dC, dI) vwCl [(hh, .inr (0, [.ref lf, .ref rt, .ref rp])), (ra, .inl (cJ, 512, .inr (.inl (fun j => lI ((upI (spB F G a h d P t) (a + t) ((F (a + t) + F (a + h + t)) % (P : Int))) j))))), (rp, .inl (cJ, 256, .inr (.inl (fun j => lI (G j)))))] H := hP
          have hD : va_D A [(hh, .inr (0, [.ref lf, .ref rt, .ref rp])), (ra, .inl (cJ, 512, .inr (.inl (fun j => lI ((upI (spB F G a h d P t) (a + t) ((F (a + t) + F (a + h + t)) % (P : Int))) j))))), (rp, .inl (cJ, 256, .inr (.inl (fun j => lI (G j)))))] := hD
          refine lv_aload_n hx hb dX0_splitBlock_60 rfl (lv_at hl 8 rfl) ?_
          refine lv_iload_n hx hb dX0_splitBlock_61 rfl (lv_at hl 7 rfl) ?_
          refine lv_iload_n hx hb dX0_splitBlock_62 rfl (lv_at hl 6 rfl) ?_
          refine lv_iadd hx hb dX0_splitBlock_63 ?_
          refine W.eq (congrArg (fun z => F0 m _ ls (.int z :: _)) (show (nI a) + (nI h) = nI (a + h) from nI_add a h)) ?_
          refine lv_iload hx hb dX0_splitBlock_64 (lv_at hl 3 rfl) ?_
          refine lv_iadd hx hb dX0_splitBlock_66 ?_
          refine W.eq (congrArg (fun z => F0 m _ ls (.int z :: _)) (show (nI (a + h)) + (nI t) = nI (a + h + t) from nI_add (a + h) t)) ?_
          refine lv_lload hx hb dX0_splitBlock_67 (lv_at hl 2 rfl) ?_
          refine lv_lload hx hb dX0_splitBlock_69 (lv_at hl 1 rfl) ?_
          refine lv_lsub hx hb dX0_splitBlock_71 ?_
          refine W.eq (congrArg (fun z => F0 m _ ls (.long z :: _)) (show lI (F (a + t)) - lI (F (a + h + t)) = lI ((F (a + t)) - (F (a + h + t))) from lI_sub (F (a + t)) (F (a + h + t)))) ?_
          refine lv_iload hx hb dX0_splitBlock_72 (lv_at hl 4 rfl) ?_
          refine lv_i2l (v := lI ((P : Nat) : Int)) hx hb dX0_splitBlock_74 (nI_lI (by omega)) ?_
          refine lv_ladd hx hb dX0_splitBlock_75 ?_
          refine W.eq (congrArg (fun z => F0 m _ ls (.long z :: _)) (show lI ((F (a + t)) - (F (a + h + t))) + lI ((P : Nat) : Int) = lI (((F (a + t)) - (F (a + h + t))) + ((P : Nat) : Int)) from lI_add ((F (a + t)) - (F (a + h + t))) ((P : Nat) : Int))) ?_
          refine lv_aload_n hx hb dX0_splitBlock_76 rfl (lv_at hl 9 rfl) ?_
          refine va_get (D := (dC, dI)) (ci := 0) (v := .ref rp) (C := RX0) (T := TX0) (N := 3) hx hb hts (by decide +kernel) hown hK hP 0 rfl rfl 2 (by decide) (hts (.fieldLink RX0 18 "ThreePrimes$Folder" "rootPowers" "[J") (by decide +kernel)) (fun _ h9 => h9) rfl dX0_splitBlock_77 ?_
          refine lv_iload hx hb dX0_splitBlock_80 (lv_at hl 3 rfl) ?_
          refine lv_iload hx hb dX0_splitBlock_82 (lv_at hl 5 rfl) ?_
          refine lv_imul hx hb dX0_splitBlock_84 ?_
          refine W.eq (congrArg (fun z => F0 m _ ls (.int z :: _)) (show (nI t) * (nI d) = nI (t * d) from pk_mul t d)) ?_
          refine va_lald hx hb hK hP 2 0 rfl rfl (vp_in_nI (by omega) (by omega)) dX0_splitBlock_85 ?_
          refine W.eq (g2 := F0 m _ ls [.long (lI (G (t * d))), .long (lI (((F (a + t)) - (F (a + h + t))) + ((P : Nat) : Int))), .int (nI (a + h + t)), .ref ra]) (by rw [nI_clamp (by omega)]) ?_
          refine lv_lmul hx hb dX0_splitBlock_86 ?_
          refine W.eq (congrArg (fun z => F0 m _ ls (.long z :: _)) (show lI (((F (a + t)) - (F (a + h + t))) + ((P : Nat) : Int)) * lI (G (t * d)) = lI ((((F (a + t)) - (F (a + h + t))) + ((P : Nat) : Int)) * (G (t * d))) from lI_mul (((F (a + t)) - (F (a + h + t))) + ((P : Nat) : Int)) (G (t * d)))) ?_
          refine lv_iload hx hb dX0_splitBlock_87 (lv_at hl 4 rfl) ?_
          refine lv_i2l (v := lI ((P : Nat) : Int)) hx hb dX0_splitBlock_89 (nI_lI (by omega)) ?_
          refine lv_lrem hx hb dX0_splitBlock_90 (fun zq9 => absurd ((lI_eq (b := 0) (by omega) (by omega) (by omega) (by omega)).mp zq9) (by omega)) ?_
          refine W.eq (congrArg (fun z => F0 m _ ls (.long z :: _)) (show lI ((((F (a + t)) - (F (a + h + t))) + ((P : Nat) : Int)) * (G (t * d))) - lI ((((F (a + t)) - (F (a + h + t))) + ((P : Nat) : Int)) * (G (t * d))) / lI ((P : Nat) : Int) * lI ((P : Nat) : Int) = lI (((((F (a + t)) - (F (a + h + t))) + ((P : Nat) : Int)) * (G (t * d))) % ((P : Nat) : Int)) from lI_rem0 (by omega) (by omega) (by omega) (by omega))) ?_
          refine va_last hx hb hK hP hD hS 1 0 rfl rfl (vp_in_nI (by omega) (by omega)) dX0_splitBlock_91 (fun H locs hP hD hS => ?_)
          rw [nI_clamp (show a + h + t < 2 ^ 31 by omega)] at hP hD
          rw [upI_l] at hP hD
          have hP : va_P (dC, dI) vwCl [(hh, .inr (0, [.ref lf, .ref rt, .ref rp])), (ra, .inl (cJ, 512, .inr (.inl (fun j => lI ((upI (upI (spB F G a h d P t) (a + t) ((F (a + t) + F (a + h + t)) % (P : Int))) (a + h + t) (((((F (a + t)) - (F (a + h + t))) + ((P : Nat) : Int)) * (G (t * d))) % ((P : Nat) : Int))) j))))), (rp, .inl (cJ, 256, .inr (.inl (fun j => lI (G j)))))] H := hP
          have hD : va_D A [(hh, .inr (0, [.ref lf, .ref rt, .ref rp])), (ra, .inl (cJ, 512, .inr (.inl (fun j => lI ((upI (upI (spB F G a h d P t) (a + t) ((F (a + t) + F (a + h + t)) % (P : Int))) (a + h + t) (((((F (a + t)) - (F (a + h + t))) + ((P : Nat) : Int)) * (G (t * d))) % ((P : Nat) : Int))) j))))), (rp, .inl (cJ, 256, .inr (.inl (fun j => lI (G j)))))] := hD
          rw [show upI (upI (spB F G a h d P t) (a + t) ((F (a + t) + F (a + h + t)) % (P : Int))) (a + h + t) (((((F (a + t)) - (F (a + h + t))) + ((P : Nat) : Int)) * (G (t * d))) % ((P : Nat) : Int)) = spB F G a h d P (t + 1) from spB_s ht2] at hP hD
          have hP : va_P (dC, dI) vwCl [(hh, .inr (0, [.ref lf, .ref rt, .ref rp])), (ra, .inl (cJ, 512, .inr (.inl (fun j => lI ((spB F G a h d P (t + 1)) j))))), (rp, .inl (cJ, 256, .inr (.inl (fun j => lI (G j)))))] H := hP
          have hD : va_D A [(hh, .inr (0, [.ref lf, .ref rt, .ref rp])), (ra, .inl (cJ, 512, .inr (.inl (fun j => lI ((spB F G a h d P (t + 1)) j))))), (rp, .inl (cJ, 256, .inr (.inl (fun j => lI (G j)))))] := hD
          refine lv_iinc (v := nI (t + 1)) (lv' := [(6, .int (nI (t + 1))), (11, .long (lI ((F (a + t)) + (F (a + h + t))))), (9, .long (lI (F (a + h + t)))), (7, .long (lI (F (a + t)))), (5, .int (nI P)), (4, .int (nI d)), (3, .int (nI h)), (2, .int (nI a)), (1, .ref ra), (0, .ref hh)]) hx hb dX0_splitBlock_92 hl (k := 3) rfl (nI_add t 1) (by decide) rfl (fun ls hl => ?_)
          refine lv_goto (tgt := 3) hx hb dX0_splitBlock_95 (by decide) ?_
          exact ih_3  (t + 1) (by omega) (by omega) _ _ _ (hP.sub [0, 1, 2] rfl) (hD.sub [0, 1, 2] (by decide) rfl) hS (lv_sub hl [0, 4, 5, 6, 7, 8, 9] rfl)
        · have c_2 : ¬ (((F (a + t)) + (F (a + h + t))) < ((P : Nat) : Int)) := fun zq9 => c_2 (((lg_cmp_lt _ _).trans (lI_lt (a := (F (a + t)) + (F (a + h + t))) (b := ((P : Nat) : Int)) (by omega) (by omega) (by omega) (by omega))).mpr zq9)
          refine lv_lload hx hb dX0_splitBlock_48 (lv_at hl 0 rfl) ?_
          refine lv_iload hx hb dX0_splitBlock_50 (lv_at hl 4 rfl) ?_
          refine lv_i2l (v := lI ((P : Nat) : Int)) hx hb dX0_splitBlock_52 (nI_lI (by omega)) ?_
          refine lv_lsub hx hb dX0_splitBlock_53 ?_
          refine W.eq (congrArg (fun z => F0 m _ ls (.long z :: _)) (show lI ((F (a + t)) + (F (a + h + t))) - lI ((P : Nat) : Int) = lI (((F (a + t)) + (F (a + h + t))) - ((P : Nat) : Int)) from lI_sub ((F (a + t)) + (F (a + h + t))) ((P : Nat) : Int))) ?_
          refine lv_goto (tgt := 59) hx hb dX0_splitBlock_54 (by decide) ?_
          refine W.eq (congrArg (fun z => F0 m _ ls (.long z :: _)) (show lI (((F (a + t)) + (F (a + h + t))) - ((P : Nat) : Int)) = lI ((F (a + t) + F (a + h + t)) % (P : Int)) from congrArg lI (sub_emod1 (by omega) (by omega)))) ?_
          refine va_last hx hb hK hP hD hS 1 0 rfl rfl (vp_in_nI (by omega) (by omega)) dX0_splitBlock_59 (fun H locs hP hD hS => ?_)
          rw [nI_clamp (show a + t < 2 ^ 31 by omega)] at hP hD
          rw [upI_l] at hP hD
          have hP : va_P (dC, dI) vwCl [(hh, .inr (0, [.ref lf, .ref rt, .ref rp])), (ra, .inl (cJ, 512, .inr (.inl (fun j => lI ((upI (spB F G a h d P t) (a + t) ((F (a + t) + F (a + h + t)) % (P : Int))) j))))), (rp, .inl (cJ, 256, .inr (.inl (fun j => lI (G j)))))] H := hP
          have hD : va_D A [(hh, .inr (0, [.ref lf, .ref rt, .ref rp])), (ra, .inl (cJ, 512, .inr (.inl (fun j => lI ((upI (spB F G a h d P t) (a + t) ((F (a + t) + F (a + h + t)) % (P : Int))) j))))), (rp, .inl (cJ, 256, .inr (.inl (fun j => lI (G j)))))] := hD
          refine lv_aload_n hx hb dX0_splitBlock_60 rfl (lv_at hl 8 rfl) ?_
          refine lv_iload_n hx hb dX0_splitBlock_61 rfl (lv_at hl 7 rfl) ?_
          refine lv_iload_n hx hb dX0_splitBlock_62 rfl (lv_at hl 6 rfl) ?_
          refine lv_iadd hx hb dX0_splitBlock_63 ?_
          refine W.eq (congrArg (fun z => F0 m _ ls (.int z :: _)) (show (nI a) + (nI h) = nI (a + h) from nI_add a h)) ?_
          refine lv_iload hx hb dX0_splitBlock_64 (lv_at hl 3 rfl) ?_
          refine lv_iadd hx hb dX0_splitBlock_66 ?_
          refine W.eq (congrArg (fun z => F0 m _ ls (.int z :: _)) (show (nI (a + h)) + (nI t) = nI (a + h + t) from nI_add (a + h) t)) ?_
          refine lv_lload hx hb dX0_splitBlock_67 (lv_at hl 2 rfl) ?_
          refine lv_lload hx hb dX0_splitBlock_69 (lv_at hl 1 rfl) ?_
          refine lv_lsub hx hb dX0_splitBlock_71 ?_
          refine W.eq (congrArg (fun z => F0 m _ ls (.long z :: _)) (show lI (F (a + t)) - lI (F (a + h + t)) = lI ((F (a + t)) - (F (a + h + t))) from lI_sub (F (a + t)) (F (a + h + t)))) ?_
          refine lv_iload hx hb dX0_splitBlock_72 (lv_at hl 4 rfl) ?_
          refine lv_i2l (v := lI ((P : Nat) : Int)) hx hb dX0_splitBlock_74 (nI_lI (by omega)) ?_
          refine lv_ladd hx hb dX0_splitBlock_75 ?_
          refine W.eq (congrArg (fun z => F0 m _ ls (.long z :: _)) (show lI ((F (a + t)) - (F (a + h + t))) + lI ((P : Nat) : Int) = lI (((F (a + t)) - (F (a + h + t))) + ((P : Nat) : Int)) from lI_add ((F (a + t)) - (F (a + h + t))) ((P : Nat) : Int))) ?_
          refine lv_aload_n hx hb dX0_splitBlock_76 rfl (lv_at hl 9 rfl) ?_
          refine va_get (D := (dC, dI)) (ci := 0) (v := .ref rp) (C := RX0) (T := TX0) (N := 3) hx hb hts (by decide +kernel) hown hK hP 0 rfl rfl 2 (by decide) (hts (.fieldLink RX0 18 "ThreePrimes$Folder" "rootPowers" "[J") (by decide +kernel)) (fun _ h9 => h9) rfl dX0_splitBlock_77 ?_
          refine lv_iload hx hb dX0_splitBlock_80 (lv_at hl 3 rfl) ?_
          refine lv_iload hx hb dX0_splitBlock_82 (lv_at hl 5 rfl) ?_
          refine lv_imul hx hb dX0_splitBlock_84 ?_
          refine W.eq (congrArg (fun z => F0 m _ ls (.int z :: _)) (show (nI t) * (nI d) = nI (t * d) from pk_mul t d)) ?_
          refine va_lald hx hb hK hP 2 0 rfl rfl (vp_in_nI (by omega) (by omega)) dX0_splitBlock_85 ?_
          refine W.eq (g2 := F0 m _ ls [.long (lI (G (t * d))), .long (lI (((F (a + t)) - (F (a + h + t))) + ((P : Nat) : Int))), .int (nI (a + h + t)), .ref ra]) (by rw [nI_clamp (by omega)]) ?_
          refine lv_lmul hx hb dX0_splitBlock_86 ?_
          refine W.eq (congrArg (fun z => F0 m _ ls (.long z :: _)) (show lI (((F (a + t)) - (F (a + h + t))) + ((P : Nat) : Int)) * lI (G (t * d)) = lI ((((F (a + t)) - (F (a + h + t))) + ((P : Nat) : Int)) * (G (t * d))) from lI_mul (((F (a + t)) - (F (a + h + t))) + ((P : Nat) : Int)) (G (t * d)))) ?_
          refine lv_iload hx hb dX0_splitBlock_87 (lv_at hl 4 rfl) ?_
          refine lv_i2l (v := lI ((P : Nat) : Int)) hx hb dX0_splitBlock_89 (nI_lI (by omega)) ?_
          refine lv_lrem hx hb dX0_splitBlock_90 (fun zq9 => absurd ((lI_eq (b := 0) (by omega) (by omega) (by omega) (by omega)).mp zq9) (by omega)) ?_
          refine W.eq (congrArg (fun z => F0 m _ ls (.long z :: _)) (show lI ((((F (a + t)) - (F (a + h + t))) + ((P : Nat) : Int)) * (G (t * d))) - lI ((((F (a + t)) - (F (a + h + t))) + ((P : Nat) : Int)) * (G (t * d))) / lI ((P : Nat) : Int) * lI ((P : Nat) : Int) = lI (((((F (a + t)) - (F (a + h + t))) + ((P : Nat) : Int)) * (G (t * d))) % ((P : Nat) : Int)) from lI_rem0 (by omega) (by omega) (by omega) (by omega))) ?_
          refine va_last hx hb hK hP hD hS 1 0 rfl rfl (vp_in_nI (by omega) (by omega)) dX0_splitBlock_91 (fun H locs hP hD hS => ?_)
          rw [nI_clamp (show a + h + t < 2 ^ 31 by omega)] at hP hD
          rw [upI_l] at hP hD
          have hP : va_P (dC, dI) vwCl [(hh, .inr (0, [.ref lf, .ref rt, .ref rp])), (ra, .inl (cJ, 512, .inr (.inl (fun j => lI ((upI (upI (spB F G a h d P t) (a + t) ((F (a + t) + F (a + h + t)) % (P : Int))) (a + h + t) (((((F (a + t)) - (F (a + h + t))) + ((P : Nat) : Int)) * (G (t * d))) % ((P : Nat) : Int))) j))))), (rp, .inl (cJ, 256, .inr (.inl (fun j => lI (G j)))))] H := hP
          have hD : va_D A [(hh, .inr (0, [.ref lf, .ref rt, .ref rp])), (ra, .inl (cJ, 512, .inr (.inl (fun j => lI ((upI (upI (spB F G a h d P t) (a + t) ((F (a + t) + F (a + h + t)) % (P : Int))) (a + h + t) (((((F (a + t)) - (F (a + h + t))) + ((P : Nat) : Int)) * (G (t * d))) % ((P : Nat) : Int))) j))))), (rp, .inl (cJ, 256, .inr (.inl (fun j => lI (G j)))))] := hD
          rw [show upI (upI (spB F G a h d P t) (a + t) ((F (a + t) + F (a + h + t)) % (P : Int))) (a + h + t) (((((F (a + t)) - (F (a + h + t))) + ((P : Nat) : Int)) * (G (t * d))) % ((P : Nat) : Int)) = spB F G a h d P (t + 1) from spB_s ht2] at hP hD
          have hP : va_P (dC, dI) vwCl [(hh, .inr (0, [.ref lf, .ref rt, .ref rp])), (ra, .inl (cJ, 512, .inr (.inl (fun j => lI ((spB F G a h d P (t + 1)) j))))), (rp, .inl (cJ, 256, .inr (.inl (fun j => lI (G j)))))] H := hP
          have hD : va_D A [(hh, .inr (0, [.ref lf, .ref rt, .ref rp])), (ra, .inl (cJ, 512, .inr (.inl (fun j => lI ((spB F G a h d P (t + 1)) j))))), (rp, .inl (cJ, 256, .inr (.inl (fun j => lI (G j)))))] := hD
          refine lv_iinc (v := nI (t + 1)) (lv' := [(6, .int (nI (t + 1))), (11, .long (lI ((F (a + t)) + (F (a + h + t))))), (9, .long (lI (F (a + h + t)))), (7, .long (lI (F (a + t)))), (5, .int (nI P)), (4, .int (nI d)), (3, .int (nI h)), (2, .int (nI a)), (1, .ref ra), (0, .ref hh)]) hx hb dX0_splitBlock_92 hl (k := 3) rfl (nI_add t 1) (by decide) rfl (fun ls hl => ?_)
          refine lv_goto (tgt := 3) hx hb dX0_splitBlock_95 (by decide) ?_
          exact ih_3  (t + 1) (by omega) (by omega) _ _ _ (hP.sub [0, 1, 2] rfl) (hD.sub [0, 1, 2] (by decide) rfl) hS (lv_sub hl [0, 4, 5, 6, 7, 8, 9] rfl)
  exact key_3 (h + 1) 0 (by omega) (by omega) _ _ _ (hP.sub [0, 1, 2] rfl) (hD.sub [0, 1, 2] (by decide) rfl) hS (lv_sub hl [0, 6, 5, 4, 3, 2, 1] rfl)

abbrev q_X0_joinBlock (dC : Nat → ClassId) (dI : Nat → Nat → Nat) (cJ : ClassId) (hh lf rt rp ra : Nat) (F G : Nat → Int) (a h d P : Nat) (A : Nat → Prop) : Array Value → State → Outcome → State → Prop := va_Qv (fun (u : Unit) => True) (fun u t => va_P (dC, dI) vwCl [(hh, .inr (0, [.ref lf, .ref rt, .ref rp])), (ra, .inl (cJ, 512, .inr (.inl (fun j => lI ((jnB F G a h d P h) j))))), (rp, .inl (cJ, 256, .inr (.inl (fun j => lI (G j)))))] t.heap ∧ va_D A [(hh, .inr (0, [.ref lf, .ref rt, .ref rp])), (ra, .inl (cJ, 512, .inr (.inl (fun j => lI ((jnB F G a h d P h) j))))), (rp, .inl (cJ, 256, .inr (.inl (fun j => lI (G j)))))]) A
set_option maxHeartbeats 4000000 in
set_option maxRecDepth 100000 in
theorem c_X0_joinBlock (l : Launch) (dC : Nat → ClassId) (dI : Nat → Nat → Nat) (cJ : ClassId) (hh lf rt rp ra : Nat) (F G : Nat → Int) (a h d P : Nat) (sz : Nat) (zF : inR F (a + 2 * h) P) (zG : inR G (h * d) P) (za : a + 2 * h ≤ 512) (zd : 0 < d) (zhd : h * d ≤ 256) (hp1 : 1 < P) (hp2 : P ≤ 2 ^ 30) : Met l yX0_joinBlock wsX0_joinBlock ({ frames := 0, cells := 0, slots := 0, locals := 0 }) (va_Pc [.ref hh, .ref ra, .int (nI a), .int (nI h), .int (nI d), .int (nI P)] (fun U => U.heap.size = sz ∧ va_P (dC, dI) vwCl [(hh, .inr (0, [.ref lf, .ref rt, .ref rp])), (ra, .inl (cJ, 512, .inr (.inl (fun j => lI (F j))))), (rp, .inl (cJ, 256, .inr (.inl (fun j => lI (G j)))))] U.heap ∧ va_K (dC, dI) vwCl [(cJ, .long)] U ∧ va_D (fun _ => True) [(hh, .inr (0, [.ref lf, .ref rt, .ref rp])), (ra, .inl (cJ, 512, .inr (.inl (fun j => lI (F j))))), (rp, .inl (cJ, 256, .inr (.inl (fun j => lI (G j)))))])) (q_X0_joinBlock dC dI cJ hh lf rt rp ra F G a h d P (va_A [(hh, .inr (0, [.ref lf, .ref rt, .ref rp])), (ra, .inl (cJ, 512, .inr (.inl (fun j => lI (F j))))), (rp, .inl (cJ, 256, .inr (.inl (fun j => lI (G j)))))] sz)) 0 0 (va_A [(hh, .inr (0, [.ref lf, .ref rt, .ref rp])), (ra, .inl (cJ, 512, .inr (.inl (fun j => lI (F j))))), (rp, .inl (cJ, 256, .inr (.inl (fun j => lI (G j)))))] sz) := by
  refine Met.ofW (cc := cX0_joinBlock) (maxL := 15) (ret := none) (by decide) rfl ?_
  intro p e s m args below meth c s₁ B hml hv
  obtain ⟨rfl, hsz, hP, hK, hD0⟩ := hv
  have hx := B.exec
  have hb := B.bytes
  have hr := B.returns
  have hts := atoms_spec (ws := wsX0_joinBlock) B.pre
  have hown : s.vm.findClass RX0 = some m.cls := findClass_of_methodNamed B.named
  have hlocks := B.notSynchronized
  subst hsz
  have hD := hD0.self (sz := s.heap.size)
  generalize hAe : va_A [(hh, .inr (0, [.ref lf, .ref rt, .ref rp])), (ra, .inl (cJ, 512, .inr (.inl (fun j => lI (F j))))), (rp, .inl (cJ, 256, .inr (.inl (fun j => lI (G j)))))] s.heap.size = A at hD ⊢
  have hA : ∀ q : Nat, s.heap.size ≤ q → A q := fun q h => by rw [← hAe]; exact Or.inr h
  have hS : va_S A s.heap s.heap [] := va_S.rf
  have hP : va_P (dC, dI) vwCl [(hh, .inr (0, [.ref lf, .ref rt, .ref rp])), (ra, .inl (cJ, 512, .inr (.inl (fun j => lI (F j))))), (rp, .inl (cJ, 256, .inr (.inl (fun j => lI (G j)))))] s.heap := hP
  have hl := lv_entry (([.ref hh, .ref ra, .int (nI a), .int (nI h), .int (nI d), .int (nI P)] : List Value)) (n := 15) (Nat.le_of_ble_eq_true rfl)
  rw [lg_entry_eq]
  generalize (lg_sl (([.ref hh, .ref ra, .int (nI a), .int (nI h), .int (nI d), .int (nI P)] : List Value)) ++ List.replicate (15 - (lg_sl (([.ref hh, .ref ra, .int (nI a), .int (nI h), .int (nI d), .int (nI P)] : List Value))).length) Slot.unset).toArray = ls at hl ⊢
  have hl : lv_has ls 15 [(0, .ref hh), (1, .ref ra), (2, .int (nI a)), (3, .int (nI h)), (4, .int (nI d)), (5, .int (nI P))] := hl
  obtain ⟨H, hHe⟩ : ∃ H : Heap, H = s.heap := ⟨_, rfl⟩
  rw [← hHe] at hP
  have hS : va_S A s.heap H [] := by rw [hHe]; exact hS
  obtain ⟨locs, hlo⟩ : ∃ L : List Loc, L = [] := ⟨_, rfl⟩
  rw [← hlo] at hS ⊢
  rw [← hHe]
  refine lv_iconst (v := nI 0) hx hb dX0_joinBlock_0 (by decide) ?_
  rw [← jnB_0 F G a h d P] at hP hD
  have hP : va_P (dC, dI) vwCl [(hh, .inr (0, [.ref lf, .ref rt, .ref rp])), (ra, .inl (cJ, 512, .inr (.inl (fun j => lI ((jnB F G a h d P 0) j))))), (rp, .inl (cJ, 256, .inr (.inl (fun j => lI (G j)))))] H := hP
  have hD : va_D A [(hh, .inr (0, [.ref lf, .ref rt, .ref rp])), (ra, .inl (cJ, 512, .inr (.inl (fun j => lI ((jnB F G a h d P 0) j))))), (rp, .inl (cJ, 256, .inr (.inl (fun j => lI (G j)))))] := hD
  refine lv_istore (lv' := [(6, .int (nI 0)), (0, .ref hh), (1, .ref ra), (2, .int (nI a)), (3, .int (nI h)), (4, .int (nI d)), (5, .int (nI P))]) hx hb dX0_joinBlock_1 hl (by decide) rfl (fun ls hl => ?_)
  have key_3 : ∀ (fuel : Nat) (t : Nat), (t ≤ h) → (h - t < fuel) → ∀ (H : Heap) (locs : List Loc) (ls : Array Slot), va_P (dC, dI) vwCl [(hh, .inr (0, [.ref lf, .ref rt, .ref rp])), (ra, .inl (cJ, 512, .inr (.inl (fun j => lI ((jnB F G a h d P t) j))))), (rp, .inl (cJ, 256, .inr (.inl (fun j => lI (G j)))))] H → va_D A [(hh, .inr (0, [.ref lf, .ref rt, .ref rp])), (ra, .inl (cJ, 512, .inr (.inl (fun j => lI ((jnB F G a h d P t) j))))), (rp, .inl (cJ, 256, .inr (.inl (fun j => lI (G j)))))] → va_S A s.heap H locs → lv_has ls 15 [(6, .int (nI t)), (5, .int (nI P)), (4, .int (nI d)), (3, .int (nI h)), (2, .int (nI a)), (1, .ref ra), (0, .ref hh)] → W p l e (headSpec wsX0_joinBlock { frames := 0, cells := 0, slots := 0, locals := 0 }).room s m ([.ref hh, .ref ra, .int (nI a), .int (nI h), .int (nI d), .int (nI P)] : List Value).toArray below meth c H locs 0 0 (MQ below (q_X0_joinBlock dC dI cJ hh lf rt rp ra F G a h d P  A) ([.ref hh, .ref ra, .int (nI a), .int (nI h), .int (nI d), .int (nI P)] : List Value).toArray s 0 0 A) (F0 m 3 ls []) := by
    intro fuel
    induction fuel with
    | zero => intro t; intros; omega
    | succ fuel ih_3 =>
      intro t ht hfu H locs ls hP hD hS hl
      refine lv_iload hx hb dX0_joinBlock_3 (lv_at hl 0 rfl) ?_
      refine lv_iload_n hx hb dX0_joinBlock_5 rfl (lv_at hl 3 rfl) ?_
      refine lv_icmp_ge (tgt := 114) hx hb dX0_joinBlock_6 (by decide) (fun c_1 => ?_) (fun c_1 => ?_)
      · have c_1 : h ≤ t := (nI_leI (a := h) (b := t) (by omega) (by omega)).mp c_1
        rw [show jnB F G a h d P t = jnB F G a h d P h from by rw [show t = h by omega]] at hP hD
        have hP : va_P (dC, dI) vwCl [(hh, .inr (0, [.ref lf, .ref rt, .ref rp])), (ra, .inl (cJ, 512, .inr (.inl (fun j => lI ((jnB F G a h d P h) j))))), (rp, .inl (cJ, 256, .inr (.inl (fun j => lI (G j)))))] H := hP
        have hD : va_D A [(hh, .inr (0, [.ref lf, .ref rt, .ref rp])), (ra, .inl (cJ, 512, .inr (.inl (fun j => lI ((jnB F G a h d P h) j))))), (rp, .inl (cJ, 256, .inr (.inl (fun j => lI (G j)))))] := hD
        have hP9 : va_P (dC, dI) vwCl [(hh, .inr (0, [.ref lf, .ref rt, .ref rp])), (ra, .inl (cJ, 512, .inr (.inl (fun j => lI ((jnB F G a h d P h) j))))), (rp, .inl (cJ, 256, .inr (.inl (fun j => lI (G j)))))] H := hP.sub [0, 1, 2] rfl
        have hD9 : va_D A [(hh, .inr (0, [.ref lf, .ref rt, .ref rp])), (ra, .inl (cJ, 512, .inr (.inl (fun j => lI ((jnB F G a h d P h) j))))), (rp, .inl (cJ, 256, .inr (.inl (fun j => lI (G j)))))] := hD.sub [0, 1, 2] (by decide) rfl
        exact W.vret hx hb hr (fun t ht hW => ⟨⟨(), rfl, trivial, by rw [ht]; exact hP9, hD9⟩, hS.F ht⟩) hS.2.2 dX0_joinBlock_114
      · have c_1 : ¬ (h ≤ t) := fun zq9 => c_1 ((nI_leI (a := h) (b := t) (by omega) (by omega)).mpr zq9)
        have ht2 : t < h := by omega
        have f1 := zF (a + t) (by omega)
        have f2 := zF (a + h + t) (by omega)
        have hix := idx_lt ht2 zd zhd
        have hix2 := idx_lt ht2 zd (Nat.le_refl _)
        have g1 := zG (t * d) (by omega)
        have b1 := mul_b30 (a := F (a + h + t)) (b := G (t * d)) (c := P) (by omega) (by omega) (by omega) (by omega) (by omega)
        have b2 := emod_rng (F (a + h + t) * G (t * d)) (show (0 : Int) < P by omega)
        refine lv_aload_n hx hb dX0_joinBlock_9 rfl (lv_at hl 5 rfl) ?_
        refine lv_iload_n hx hb dX0_joinBlock_10 rfl (lv_at hl 4 rfl) ?_
        refine lv_iload hx hb dX0_joinBlock_11 (lv_at hl 0 rfl) ?_
        refine lv_iadd hx hb dX0_joinBlock_13 ?_
        refine W.eq (congrArg (fun z => F0 m _ ls (.int z :: _)) (show (nI a) + (nI t) = nI (a + t) from nI_add a t)) ?_
        refine va_lald hx hb hK hP 1 0 rfl rfl (vp_in_nI (by omega) (by omega)) dX0_joinBlock_14 ?_
        refine W.eq (g2 := F0 m _ ls [.long (lI ((jnB F G a h d P t) (a + t)))]) (by rw [nI_clamp (by omega)]) ?_
        refine W.eq (congrArg (fun z => F0 m _ ls (.long z :: _)) (show lI ((jnB F G a h d P t) (a + t)) = lI (F (a + t)) from congrArg lI (jnB_a ht2))) ?_
        refine lv_lstore (lv' := [(7, .long (lI (F (a + t)))), (6, .int (nI t)), (5, .int (nI P)), (4, .int (nI d)), (3, .int (nI h)), (2, .int (nI a)), (1, .ref ra), (0, .ref hh)]) hx hb dX0_joinBlock_15 hl (by decide) rfl (fun ls hl => ?_)
        refine lv_aload_n hx hb dX0_joinBlock_17 rfl (lv_at hl 6 rfl) ?_
        refine lv_iload_n hx hb dX0_joinBlock_18 rfl (lv_at hl 5 rfl) ?_
        refine lv_iload_n hx hb dX0_joinBlock_19 rfl (lv_at hl 4 rfl) ?_
        refine lv_iadd hx hb dX0_joinBlock_20 ?_
        refine W.eq (congrArg (fun z => F0 m _ ls (.int z :: _)) (show (nI a) + (nI h) = nI (a + h) from nI_add a h)) ?_
        refine lv_iload hx hb dX0_joinBlock_21 (lv_at hl 1 rfl) ?_
        refine lv_iadd hx hb dX0_joinBlock_23 ?_
        refine W.eq (congrArg (fun z => F0 m _ ls (.int z :: _)) (show (nI (a + h)) + (nI t) = nI (a + h + t) from nI_add (a + h) t)) ?_
        refine va_lald hx hb hK hP 1 0 rfl rfl (vp_in_nI (by omega) (by omega)) dX0_joinBlock_24 ?_
        refine W.eq (g2 := F0 m _ ls [.long (lI ((jnB F G a h d P t) (a + h + t)))]) (by rw [nI_clamp (by omega)]) ?_
        refine W.eq (congrArg (fun z => F0 m _ ls (.long z :: _)) (show lI ((jnB F G a h d P t) (a + h + t)) = lI (F (a + h + t)) from congrArg lI (jnB_b ht2))) ?_
        refine lv_aload_n hx hb dX0_joinBlock_25 rfl (lv_at hl 7 rfl) ?_
        refine va_get (D := (dC, dI)) (ci := 0) (v := .ref rp) (C := RX0) (T := TX0) (N := 3) hx hb hts (by decide +kernel) hown hK hP 0 rfl rfl 2 (by decide) (hts (.fieldLink RX0 18 "ThreePrimes$Folder" "rootPowers" "[J") (by decide +kernel)) (fun _ h9 => h9) rfl dX0_joinBlock_26 ?_
        refine lv_iload hx hb dX0_joinBlock_29 (lv_at hl 1 rfl) ?_
        refine lv_iload hx hb dX0_joinBlock_31 (lv_at hl 3 rfl) ?_
        refine lv_imul hx hb dX0_joinBlock_33 ?_
        refine W.eq (congrArg (fun z => F0 m _ ls (.int z :: _)) (show (nI t) * (nI d) = nI (t * d) from pk_mul t d)) ?_
        refine va_lald hx hb hK hP 2 0 rfl rfl (vp_in_nI (by omega) (by omega)) dX0_joinBlock_34 ?_
        refine W.eq (g2 := F0 m _ ls [.long (lI (G (t * d))), .long (lI (F (a + h + t)))]) (by rw [nI_clamp (by omega)]) ?_
        refine lv_lmul hx hb dX0_joinBlock_35 ?_
        refine W.eq (congrArg (fun z => F0 m _ ls (.long z :: _)) (show lI (F (a + h + t)) * lI (G (t * d)) = lI ((F (a + h + t)) * (G (t * d))) from lI_mul (F (a + h + t)) (G (t * d)))) ?_
        refine lv_iload hx hb dX0_joinBlock_36 (lv_at hl 2 rfl) ?_
        refine lv_i2l (v := lI ((P : Nat) : Int)) hx hb dX0_joinBlock_38 (nI_lI (by omega)) ?_
        refine lv_lrem hx hb dX0_joinBlock_39 (fun zq9 => absurd ((lI_eq (b := 0) (by omega) (by omega) (by omega) (by omega)).mp zq9) (by omega)) ?_
        refine W.eq (congrArg (fun z => F0 m _ ls (.long z :: _)) (show lI ((F (a + h + t)) * (G (t * d))) - lI ((F (a + h + t)) * (G (t * d))) / lI ((P : Nat) : Int) * lI ((P : Nat) : Int) = lI (((F (a + h + t)) * (G (t * d))) % ((P : Nat) : Int)) from lI_rem0 (by omega) (by omega) (by omega) (by omega))) ?_
        refine lv_lstore (lv' := [(9, .long (lI (((F (a + h + t)) * (G (t * d))) % ((P : Nat) : Int)))), (7, .long (lI (F (a + t)))), (6, .int (nI t)), (5, .int (nI P)), (4, .int (nI d)), (3, .int (nI h)), (2, .int (nI a)), (1, .ref ra), (0, .ref hh)]) hx hb dX0_joinBlock_40 hl (by decide) rfl (fun ls hl => ?_)
        refine lv_lload hx hb dX0_joinBlock_42 (lv_at hl 1 rfl) ?_
        refine lv_lload hx hb dX0_joinBlock_44 (lv_at hl 0 rfl) ?_
        refine lv_ladd hx hb dX0_joinBlock_46 ?_
        refine W.eq (congrArg (fun z => F0 m _ ls (.long z :: _)) (show lI (F (a + t)) + lI (((F (a + h + t)) * (G (t * d))) % ((P : Nat) : Int)) = lI ((F (a + t)) + (((F (a + h + t)) * (G (t * d))) % ((P : Nat) : Int))) from lI_add (F (a + t)) (((F (a + h + t)) * (G (t * d))) % ((P : Nat) : Int)))) ?_
        refine lv_lstore (lv' := [(11, .long (lI ((F (a + t)) + (((F (a + h + t)) * (G (t * d))) % ((P : Nat) : Int))))), (9, .long (lI (((F (a + h + t)) * (G (t * d))) % ((P : Nat) : Int)))), (7, .long (lI (F (a + t)))), (6, .int (nI t)), (5, .int (nI P)), (4, .int (nI d)), (3, .int (nI h)), (2, .int (nI a)), (1, .ref ra), (0, .ref hh)]) hx hb dX0_joinBlock_47 hl (by decide) rfl (fun ls hl => ?_)
        refine lv_lload hx hb dX0_joinBlock_49 (lv_at hl 2 rfl) ?_
        refine lv_lload hx hb dX0_joinBlock_51 (lv_at hl 1 rfl) ?_
        refine lv_lsub hx hb dX0_joinBlock_53 ?_
        refine W.eq (congrArg (fun z => F0 m _ ls (.long z :: _)) (show lI (F (a + t)) - lI (((F (a + h + t)) * (G (t * d))) % ((P : Nat) : Int)) = lI ((F (a + t)) - (((F (a + h + t)) * (G (t * d))) % ((P : Nat) : Int))) from lI_sub (F (a + t)) (((F (a + h + t)) * (G (t * d))) % ((P : Nat) : Int)))) ?_
        refine lv_lstore (lv' := [(13, .long (lI ((F (a + t)) - (((F (a + h + t)) * (G (t * d))) % ((P : Nat) : Int))))), (11, .long (lI ((F (a + t)) + (((F (a + h + t)) * (G (t * d))) % ((P : Nat) : Int))))), (9, .long (lI (((F (a + h + t)) * (G (t * d))) % ((P : Nat) : Int)))), (7, .long (lI (F (a + t)))), (6, .int (nI t)), (5, .int (nI P)), (4, .int (nI d)), (3, .int (nI h)), (2, .int (nI a)), (1, .ref ra), (0, .ref hh)]) hx hb dX0_joinBlock_54 hl (by decide) rfl (fun ls hl => ?_)
        refine lv_aload_n hx hb dX0_joinBlock_56 rfl (lv_at hl 9 rfl) ?_
        refine lv_iload_n hx hb dX0_joinBlock_57 rfl (lv_at hl 8 rfl) ?_
        refine lv_iload hx hb dX0_joinBlock_58 (lv_at hl 4 rfl) ?_
        refine lv_iadd hx hb dX0_joinBlock_60 ?_
        refine W.eq (congrArg (fun z => F0 m _ ls (.int z :: _)) (show (nI a) + (nI t) = nI (a + t) from nI_add a t)) ?_
        refine lv_lload hx hb dX0_joinBlock_61 (lv_at hl 1 rfl) ?_
        refine lv_iload hx hb dX0_joinBlock_63 (lv_at hl 5 rfl) ?_
        refine lv_i2l (v := lI ((P : Nat) : Int)) hx hb dX0_joinBlock_65 (nI_lI (by omega)) ?_
        refine W.lcmp hx hb dX0_joinBlock_66 ?_
        refine lv_if_lt (tgt := 79) hx hb dX0_joinBlock_67 (by decide) (fun c_2 => ?_) (fun c_2 => ?_)
        · have c_2 : ((F (a + t)) + (((F (a + h + t)) * (G (t * d))) % ((P : Nat) : Int))) < ((P : Nat) : Int) := ((lg_cmp_lt _ _).trans (lI_lt (a := (F (a + t)) + (((F (a + h + t)) * (G (t * d))) % ((P : Nat) : Int))) (b := ((P : Nat) : Int)) (by omega) (by omega) (by omega) (by omega))).mp c_2
          refine lv_lload hx hb dX0_joinBlock_79 (lv_at hl 1 rfl) ?_
          refine W.eq (congrArg (fun z => F0 m _ ls (.long z :: _)) (show lI ((F (a + t)) + (((F (a + h + t)) * (G (t * d))) % ((P : Nat) : Int))) = lI ((F (a + t) + F (a + h + t) * G (t * d) % (P : Int)) % (P : Int)) from congrArg lI (Int.emod_eq_of_lt (by omega) (by omega)).symm)) ?_
          refine va_last hx hb hK hP hD hS 1 0 rfl rfl (vp_in_nI (by omega) (by omega)) dX0_joinBlock_81 (fun H locs hP hD hS => ?_)
          rw [nI_clamp (show a + t < 2 ^ 31 by omega)] at hP hD
          rw [upI_l] at hP hD
          have hP : va_P (dC, dI) vwCl [(hh, .inr (0, [.ref lf, .ref rt, .ref rp])), (ra, .inl (cJ, 512, .inr (.inl (fun j => lI ((upI (jnB F G a h d P t) (a + t) ((F (a + t) + F (a + h + t) * G (t * d) % (P : Int)) % (P : Int))) j))))), (rp, .inl (cJ, 256, .inr (.inl (fun j => lI (G j)))))] H := hP
          have hD : va_D A [(hh, .inr (0, [.ref lf, .ref rt, .ref rp])), (ra, .inl (cJ, 512, .inr (.inl (fun j => lI ((upI (jnB F G a h d P t) (a + t) ((F (a + t) + F (a + h + t) * G (t * d) % (P : Int)) % (P : Int))) j))))), (rp, .inl (cJ, 256, .inr (.inl (fun j => lI (G j)))))] := hD
          refine lv_aload_n hx hb dX0_joinBlock_82 rfl (lv_at hl 9 rfl) ?_
          refine lv_iload_n hx hb dX0_joinBlock_83 rfl (lv_at hl 8 rfl) ?_
          refine lv_iload_n hx hb dX0_joinBlock_84 rfl (lv_at hl 7 rfl) ?_
          refine lv_iadd hx hb dX0_joinBlock_85 ?_
          refine W.eq (congrArg (fun z => F0 m _ ls (.int z :: _)) (show (nI a) + (nI h) = nI (a + h) from nI_add a h)) ?_
          refine lv_iload hx hb dX0_joinBlock_86 (lv_at hl 4 rfl) ?_
          refine lv_iadd hx hb dX0_joinBlock_88 ?_
          refine W.eq (congrArg (fun z => F0 m _ ls (.int z :: _)) (show (nI (a + h)) + (nI t) = nI (a + h + t) from nI_add (a + h) t)) ?_
          refine lv_lload hx hb dX0_joinBlock_89 (lv_at hl 0 rfl) ?_
          refine lv_lconst (v := lI 0) hx hb dX0_joinBlock_91 (by decide) ?_
          refine W.lcmp hx hb dX0_joinBlock_92 ?_
          refine lv_if_ge (tgt := 105) hx hb dX0_joinBlock_93 (by decide) (fun c_3 => ?_) (fun c_3 => ?_)
          · have c_3 : 0 ≤ ((F (a + t)) - (((F (a + h + t)) * (G (t * d))) % ((P : Nat) : Int))) := ((lg_cmp_ge _ _).trans (lI_le (a := 0) (b := (F (a + t)) - (((F (a + h + t)) * (G (t * d))) % ((P : Nat) : Int))) (by omega) (by omega) (by omega) (by omega))).mp c_3
            refine lv_lload hx hb dX0_joinBlock_105 (lv_at hl 0 rfl) ?_
            refine W.eq (congrArg (fun z => F0 m _ ls (.long z :: _)) (show lI ((F (a + t)) - (((F (a + h + t)) * (G (t * d))) % ((P : Nat) : Int))) = lI ((F (a + t) - F (a + h + t) * G (t * d) % (P : Int)) % (P : Int)) from congrArg lI (Int.emod_eq_of_lt (by omega) (by omega)).symm)) ?_
            refine va_last hx hb hK hP hD hS 1 0 rfl rfl (vp_in_nI (by omega) (by omega)) dX0_joinBlock_107 (fun H locs hP hD hS => ?_)
            rw [nI_clamp (show a + h + t < 2 ^ 31 by omega)] at hP hD
            rw [upI_l] at hP hD
            have hP : va_P (dC, dI) vwCl [(hh, .inr (0, [.ref lf, .ref rt, .ref rp])), (ra, .inl (cJ, 512, .inr (.inl (fun j => lI ((upI (upI (jnB F G a h d P t) (a + t) ((F (a + t) + F (a + h + t) * G (t * d) % (P : Int)) % (P : Int))) (a + h + t) ((F (a + t) - F (a + h + t) * G (t * d) % (P : Int)) % (P : Int))) j))))), (rp, .inl (cJ, 256, .inr (.inl (fun j => lI (G j)))))] H := hP
            have hD : va_D A [(hh, .inr (0, [.ref lf, .ref rt, .ref rp])), (ra, .inl (cJ, 512, .inr (.inl (fun j => lI ((upI (upI (jnB F G a h d P t) (a + t) ((F (a + t) + F (a + h + t) * G (t * d) % (P : Int)) % (P : Int))) (a + h + t) ((F (a + t) - F (a + h + t) * G (t * d) % (P : Int)) % (P : Int))) j))))), (rp, .inl (cJ, 256, .inr (.inl (fun j => lI (G j)))))] := hD
            rw [show upI (upI (jnB F G a h d P t) (a + t) ((F (a + t) + F (a + h + t) * G (t * d) % (P : Int)) % (P : Int))) (a + h + t) ((F (a + t) - F (a + h + t) * G (t * d) % (P : Int)) % (P : Int)) = jnB F G a h d P (t + 1) from jnB_s ht2] at hP hD
            have hP : va_P (dC, dI) vwCl [(hh, .inr (0, [.ref lf, .ref rt, .ref rp])), (ra, .inl (cJ, 512, .inr (.inl (fun j => lI ((jnB F G a h d P (t + 1)) j))))), (rp, .inl (cJ, 256, .inr (.inl (fun j => lI (G j)))))] H := hP
            have hD : va_D A [(hh, .inr (0, [.ref lf, .ref rt, .ref rp])), (ra, .inl (cJ, 512, .inr (.inl (fun j => lI ((jnB F G a h d P (t + 1)) j))))), (rp, .inl (cJ, 256, .inr (.inl (fun j => lI (G j)))))] := hD
            refine lv_iinc (v := nI (t + 1)) (lv' := [(6, .int (nI (t + 1))), (13, .long (lI ((F (a + t)) - (((F (a + h + t)) * (G (t * d))) % ((P : Nat) : Int))))), (11, .long (lI ((F (a + t)) + (((F (a + h + t)) * (G (t * d))) % ((P : Nat) : Int))))), (9, .long (lI (((F (a + h + t)) * (G (t * d))) % ((P : Nat) : Int)))), (7, .long (lI (F (a + t)))), (5, .int (nI P)), (4, .int (nI d)), (3, .int (nI h)), (2, .int (nI a)), (1, .ref ra), (0, .ref hh)]) hx hb dX0_joinBlock_108 hl (k := 4) rfl (nI_add t 1) (by decide) rfl (fun ls hl => ?_)
            refine lv_goto (tgt := 3) hx hb dX0_joinBlock_111 (by decide) ?_
            exact ih_3  (t + 1) (by omega) (by omega) _ _ _ (hP.sub [0, 1, 2] rfl) (hD.sub [0, 1, 2] (by decide) rfl) hS (lv_sub hl [0, 5, 6, 7, 8, 9, 10] rfl)
          · have c_3 : ¬ (0 ≤ ((F (a + t)) - (((F (a + h + t)) * (G (t * d))) % ((P : Nat) : Int)))) := fun zq9 => c_3 (((lg_cmp_ge _ _).trans (lI_le (a := 0) (b := (F (a + t)) - (((F (a + h + t)) * (G (t * d))) % ((P : Nat) : Int))) (by omega) (by omega) (by omega) (by omega))).mpr zq9)
            refine lv_lload hx hb dX0_joinBlock_96 (lv_at hl 0 rfl) ?_
            refine lv_iload hx hb dX0_joinBlock_98 (lv_at hl 5 rfl) ?_
            refine lv_i2l (v := lI ((P : Nat) : Int)) hx hb dX0_joinBlock_100 (nI_lI (by omega)) ?_
            refine lv_ladd hx hb dX0_joinBlock_101 ?_
            refine W.eq (congrArg (fun z => F0 m _ ls (.long z :: _)) (show lI ((F (a + t)) - (((F (a + h + t)) * (G (t * d))) % ((P : Nat) : Int))) + lI ((P : Nat) : Int) = lI (((F (a + t)) - (((F (a + h + t)) * (G (t * d))) % ((P : Nat) : Int))) + ((P : Nat) : Int)) from lI_add ((F (a + t)) - (((F (a + h + t)) * (G (t * d))) % ((P : Nat) : Int))) ((P : Nat) : Int))) ?_
            refine lv_goto (tgt := 107) hx hb dX0_joinBlock_102 (by decide) ?_
            refine W.eq (congrArg (fun z => F0 m _ ls (.long z :: _)) (show lI (((F (a + t)) - (((F (a + h + t)) * (G (t * d))) % ((P : Nat) : Int))) + ((P : Nat) : Int)) = lI ((F (a + t) - F (a + h + t) * G (t * d) % (P : Int)) % (P : Int)) from congrArg lI (add_emod1 (by omega) (by omega)))) ?_
            refine va_last hx hb hK hP hD hS 1 0 rfl rfl (vp_in_nI (by omega) (by omega)) dX0_joinBlock_107 (fun H locs hP hD hS => ?_)
            rw [nI_clamp (show a + h + t < 2 ^ 31 by omega)] at hP hD
            rw [upI_l] at hP hD
            have hP : va_P (dC, dI) vwCl [(hh, .inr (0, [.ref lf, .ref rt, .ref rp])), (ra, .inl (cJ, 512, .inr (.inl (fun j => lI ((upI (upI (jnB F G a h d P t) (a + t) ((F (a + t) + F (a + h + t) * G (t * d) % (P : Int)) % (P : Int))) (a + h + t) ((F (a + t) - F (a + h + t) * G (t * d) % (P : Int)) % (P : Int))) j))))), (rp, .inl (cJ, 256, .inr (.inl (fun j => lI (G j)))))] H := hP
            have hD : va_D A [(hh, .inr (0, [.ref lf, .ref rt, .ref rp])), (ra, .inl (cJ, 512, .inr (.inl (fun j => lI ((upI (upI (jnB F G a h d P t) (a + t) ((F (a + t) + F (a + h + t) * G (t * d) % (P : Int)) % (P : Int))) (a + h + t) ((F (a + t) - F (a + h + t) * G (t * d) % (P : Int)) % (P : Int))) j))))), (rp, .inl (cJ, 256, .inr (.inl (fun j => lI (G j)))))] := hD
            rw [show upI (upI (jnB F G a h d P t) (a + t) ((F (a + t) + F (a + h + t) * G (t * d) % (P : Int)) % (P : Int))) (a + h + t) ((F (a + t) - F (a + h + t) * G (t * d) % (P : Int)) % (P : Int)) = jnB F G a h d P (t + 1) from jnB_s ht2] at hP hD
            have hP : va_P (dC, dI) vwCl [(hh, .inr (0, [.ref lf, .ref rt, .ref rp])), (ra, .inl (cJ, 512, .inr (.inl (fun j => lI ((jnB F G a h d P (t + 1)) j))))), (rp, .inl (cJ, 256, .inr (.inl (fun j => lI (G j)))))] H := hP
            have hD : va_D A [(hh, .inr (0, [.ref lf, .ref rt, .ref rp])), (ra, .inl (cJ, 512, .inr (.inl (fun j => lI ((jnB F G a h d P (t + 1)) j))))), (rp, .inl (cJ, 256, .inr (.inl (fun j => lI (G j)))))] := hD
            refine lv_iinc (v := nI (t + 1)) (lv' := [(6, .int (nI (t + 1))), (13, .long (lI ((F (a + t)) - (((F (a + h + t)) * (G (t * d))) % ((P : Nat) : Int))))), (11, .long (lI ((F (a + t)) + (((F (a + h + t)) * (G (t * d))) % ((P : Nat) : Int))))), (9, .long (lI (((F (a + h + t)) * (G (t * d))) % ((P : Nat) : Int)))), (7, .long (lI (F (a + t)))), (5, .int (nI P)), (4, .int (nI d)), (3, .int (nI h)), (2, .int (nI a)), (1, .ref ra), (0, .ref hh)]) hx hb dX0_joinBlock_108 hl (k := 4) rfl (nI_add t 1) (by decide) rfl (fun ls hl => ?_)
            refine lv_goto (tgt := 3) hx hb dX0_joinBlock_111 (by decide) ?_
            exact ih_3  (t + 1) (by omega) (by omega) _ _ _ (hP.sub [0, 1, 2] rfl) (hD.sub [0, 1, 2] (by decide) rfl) hS (lv_sub hl [0, 5, 6, 7, 8, 9, 10] rfl)
        · have c_2 : ¬ (((F (a + t)) + (((F (a + h + t)) * (G (t * d))) % ((P : Nat) : Int))) < ((P : Nat) : Int)) := fun zq9 => c_2 (((lg_cmp_lt _ _).trans (lI_lt (a := (F (a + t)) + (((F (a + h + t)) * (G (t * d))) % ((P : Nat) : Int))) (b := ((P : Nat) : Int)) (by omega) (by omega) (by omega) (by omega))).mpr zq9)
          refine lv_lload hx hb dX0_joinBlock_70 (lv_at hl 1 rfl) ?_
          refine lv_iload hx hb dX0_joinBlock_72 (lv_at hl 5 rfl) ?_
          refine lv_i2l (v := lI ((P : Nat) : Int)) hx hb dX0_joinBlock_74 (nI_lI (by omega)) ?_
          refine lv_lsub hx hb dX0_joinBlock_75 ?_
          refine W.eq (congrArg (fun z => F0 m _ ls (.long z :: _)) (show lI ((F (a + t)) + (((F (a + h + t)) * (G (t * d))) % ((P : Nat) : Int))) - lI ((P : Nat) : Int) = lI (((F (a + t)) + (((F (a + h + t)) * (G (t * d))) % ((P : Nat) : Int))) - ((P : Nat) : Int)) from lI_sub ((F (a + t)) + (((F (a + h + t)) * (G (t * d))) % ((P : Nat) : Int))) ((P : Nat) : Int))) ?_
          refine lv_goto (tgt := 81) hx hb dX0_joinBlock_76 (by decide) ?_
          refine W.eq (congrArg (fun z => F0 m _ ls (.long z :: _)) (show lI (((F (a + t)) + (((F (a + h + t)) * (G (t * d))) % ((P : Nat) : Int))) - ((P : Nat) : Int)) = lI ((F (a + t) + F (a + h + t) * G (t * d) % (P : Int)) % (P : Int)) from congrArg lI (sub_emod1 (by omega) (by omega)))) ?_
          refine va_last hx hb hK hP hD hS 1 0 rfl rfl (vp_in_nI (by omega) (by omega)) dX0_joinBlock_81 (fun H locs hP hD hS => ?_)
          rw [nI_clamp (show a + t < 2 ^ 31 by omega)] at hP hD
          rw [upI_l] at hP hD
          have hP : va_P (dC, dI) vwCl [(hh, .inr (0, [.ref lf, .ref rt, .ref rp])), (ra, .inl (cJ, 512, .inr (.inl (fun j => lI ((upI (jnB F G a h d P t) (a + t) ((F (a + t) + F (a + h + t) * G (t * d) % (P : Int)) % (P : Int))) j))))), (rp, .inl (cJ, 256, .inr (.inl (fun j => lI (G j)))))] H := hP
          have hD : va_D A [(hh, .inr (0, [.ref lf, .ref rt, .ref rp])), (ra, .inl (cJ, 512, .inr (.inl (fun j => lI ((upI (jnB F G a h d P t) (a + t) ((F (a + t) + F (a + h + t) * G (t * d) % (P : Int)) % (P : Int))) j))))), (rp, .inl (cJ, 256, .inr (.inl (fun j => lI (G j)))))] := hD
          refine lv_aload_n hx hb dX0_joinBlock_82 rfl (lv_at hl 9 rfl) ?_
          refine lv_iload_n hx hb dX0_joinBlock_83 rfl (lv_at hl 8 rfl) ?_
          refine lv_iload_n hx hb dX0_joinBlock_84 rfl (lv_at hl 7 rfl) ?_
          refine lv_iadd hx hb dX0_joinBlock_85 ?_
          refine W.eq (congrArg (fun z => F0 m _ ls (.int z :: _)) (show (nI a) + (nI h) = nI (a + h) from nI_add a h)) ?_
          refine lv_iload hx hb dX0_joinBlock_86 (lv_at hl 4 rfl) ?_
          refine lv_iadd hx hb dX0_joinBlock_88 ?_
          refine W.eq (congrArg (fun z => F0 m _ ls (.int z :: _)) (show (nI (a + h)) + (nI t) = nI (a + h + t) from nI_add (a + h) t)) ?_
          refine lv_lload hx hb dX0_joinBlock_89 (lv_at hl 0 rfl) ?_
          refine lv_lconst (v := lI 0) hx hb dX0_joinBlock_91 (by decide) ?_
          refine W.lcmp hx hb dX0_joinBlock_92 ?_
          refine lv_if_ge (tgt := 105) hx hb dX0_joinBlock_93 (by decide) (fun c_4 => ?_) (fun c_4 => ?_)
          · have c_4 : 0 ≤ ((F (a + t)) - (((F (a + h + t)) * (G (t * d))) % ((P : Nat) : Int))) := ((lg_cmp_ge _ _).trans (lI_le (a := 0) (b := (F (a + t)) - (((F (a + h + t)) * (G (t * d))) % ((P : Nat) : Int))) (by omega) (by omega) (by omega) (by omega))).mp c_4
            refine lv_lload hx hb dX0_joinBlock_105 (lv_at hl 0 rfl) ?_
            refine W.eq (congrArg (fun z => F0 m _ ls (.long z :: _)) (show lI ((F (a + t)) - (((F (a + h + t)) * (G (t * d))) % ((P : Nat) : Int))) = lI ((F (a + t) - F (a + h + t) * G (t * d) % (P : Int)) % (P : Int)) from congrArg lI (Int.emod_eq_of_lt (by omega) (by omega)).symm)) ?_
            refine va_last hx hb hK hP hD hS 1 0 rfl rfl (vp_in_nI (by omega) (by omega)) dX0_joinBlock_107 (fun H locs hP hD hS => ?_)
            rw [nI_clamp (show a + h + t < 2 ^ 31 by omega)] at hP hD
            rw [upI_l] at hP hD
            have hP : va_P (dC, dI) vwCl [(hh, .inr (0, [.ref lf, .ref rt, .ref rp])), (ra, .inl (cJ, 512, .inr (.inl (fun j => lI ((upI (upI (jnB F G a h d P t) (a + t) ((F (a + t) + F (a + h + t) * G (t * d) % (P : Int)) % (P : Int))) (a + h + t) ((F (a + t) - F (a + h + t) * G (t * d) % (P : Int)) % (P : Int))) j))))), (rp, .inl (cJ, 256, .inr (.inl (fun j => lI (G j)))))] H := hP
            have hD : va_D A [(hh, .inr (0, [.ref lf, .ref rt, .ref rp])), (ra, .inl (cJ, 512, .inr (.inl (fun j => lI ((upI (upI (jnB F G a h d P t) (a + t) ((F (a + t) + F (a + h + t) * G (t * d) % (P : Int)) % (P : Int))) (a + h + t) ((F (a + t) - F (a + h + t) * G (t * d) % (P : Int)) % (P : Int))) j))))), (rp, .inl (cJ, 256, .inr (.inl (fun j => lI (G j)))))] := hD
            rw [show upI (upI (jnB F G a h d P t) (a + t) ((F (a + t) + F (a + h + t) * G (t * d) % (P : Int)) % (P : Int))) (a + h + t) ((F (a + t) - F (a + h + t) * G (t * d) % (P : Int)) % (P : Int)) = jnB F G a h d P (t + 1) from jnB_s ht2] at hP hD
            have hP : va_P (dC, dI) vwCl [(hh, .inr (0, [.ref lf, .ref rt, .ref rp])), (ra, .inl (cJ, 512, .inr (.inl (fun j => lI ((jnB F G a h d P (t + 1)) j))))), (rp, .inl (cJ, 256, .inr (.inl (fun j => lI (G j)))))] H := hP
            have hD : va_D A [(hh, .inr (0, [.ref lf, .ref rt, .ref rp])), (ra, .inl (cJ, 512, .inr (.inl (fun j => lI ((jnB F G a h d P (t + 1)) j))))), (rp, .inl (cJ, 256, .inr (.inl (fun j => lI (G j)))))] := hD
            refine lv_iinc (v := nI (t + 1)) (lv' := [(6, .int (nI (t + 1))), (13, .long (lI ((F (a + t)) - (((F (a + h + t)) * (G (t * d))) % ((P : Nat) : Int))))), (11, .long (lI ((F (a + t)) + (((F (a + h + t)) * (G (t * d))) % ((P : Nat) : Int))))), (9, .long (lI (((F (a + h + t)) * (G (t * d))) % ((P : Nat) : Int)))), (7, .long (lI (F (a + t)))), (5, .int (nI P)), (4, .int (nI d)), (3, .int (nI h)), (2, .int (nI a)), (1, .ref ra), (0, .ref hh)]) hx hb dX0_joinBlock_108 hl (k := 4) rfl (nI_add t 1) (by decide) rfl (fun ls hl => ?_)
            refine lv_goto (tgt := 3) hx hb dX0_joinBlock_111 (by decide) ?_
            exact ih_3  (t + 1) (by omega) (by omega) _ _ _ (hP.sub [0, 1, 2] rfl) (hD.sub [0, 1, 2] (by decide) rfl) hS (lv_sub hl [0, 5, 6, 7, 8, 9, 10] rfl)
          · have c_4 : ¬ (0 ≤ ((F (a + t)) - (((F (a + h + t)) * (G (t * d))) % ((P : Nat) : Int)))) := fun zq9 => c_4 (((lg_cmp_ge _ _).trans (lI_le (a := 0) (b := (F (a + t)) - (((F (a + h + t)) * (G (t * d))) % ((P : Nat) : Int))) (by omega) (by omega) (by omega) (by omega))).mpr zq9)
            refine lv_lload hx hb dX0_joinBlock_96 (lv_at hl 0 rfl) ?_
            refine lv_iload hx hb dX0_joinBlock_98 (lv_at hl 5 rfl) ?_
            refine lv_i2l (v := lI ((P : Nat) : Int)) hx hb dX0_joinBlock_100 (nI_lI (by omega)) ?_
            refine lv_ladd hx hb dX0_joinBlock_101 ?_
            refine W.eq (congrArg (fun z => F0 m _ ls (.long z :: _)) (show lI ((F (a + t)) - (((F (a + h + t)) * (G (t * d))) % ((P : Nat) : Int))) + lI ((P : Nat) : Int) = lI (((F (a + t)) - (((F (a + h + t)) * (G (t * d))) % ((P : Nat) : Int))) + ((P : Nat) : Int)) from lI_add ((F (a + t)) - (((F (a + h + t)) * (G (t * d))) % ((P : Nat) : Int))) ((P : Nat) : Int))) ?_
            refine lv_goto (tgt := 107) hx hb dX0_joinBlock_102 (by decide) ?_
            refine W.eq (congrArg (fun z => F0 m _ ls (.long z :: _)) (show lI (((F (a + t)) - (((F (a + h + t)) * (G (t * d))) % ((P : Nat) : Int))) + ((P : Nat) : Int)) = lI ((F (a + t) - F (a + h + t) * G (t * d) % (P : Int)) % (P : Int)) from congrArg lI (add_emod1 (by omega) (by omega)))) ?_
            refine va_last hx hb hK hP hD hS 1 0 rfl rfl (vp_in_nI (by omega) (by omega)) dX0_joinBlock_107 (fun H locs hP hD hS => ?_)
            rw [nI_clamp (show a + h + t < 2 ^ 31 by omega)] at hP hD
            rw [upI_l] at hP hD
            have hP : va_P (dC, dI) vwCl [(hh, .inr (0, [.ref lf, .ref rt, .ref rp])), (ra, .inl (cJ, 512, .inr (.inl (fun j => lI ((upI (upI (jnB F G a h d P t) (a + t) ((F (a + t) + F (a + h + t) * G (t * d) % (P : Int)) % (P : Int))) (a + h + t) ((F (a + t) - F (a + h + t) * G (t * d) % (P : Int)) % (P : Int))) j))))), (rp, .inl (cJ, 256, .inr (.inl (fun j => lI (G j)))))] H := hP
            have hD : va_D A [(hh, .inr (0, [.ref lf, .ref rt, .ref rp])), (ra, .inl (cJ, 512, .inr (.inl (fun j => lI ((upI (upI (jnB F G a h d P t) (a + t) ((F (a + t) + F (a + h + t) * G (t * d) % (P : Int)) % (P : Int))) (a + h + t) ((F (a + t) - F (a + h + t) * G (t * d) % (P : Int)) % (P : Int))) j))))), (rp, .inl (cJ, 256, .inr (.inl (fun j => lI (G j)))))] := hD
            rw [show upI (upI (jnB F G a h d P t) (a + t) ((F (a + t) + F (a + h + t) * G (t * d) % (P : Int)) % (P : Int))) (a + h + t) ((F (a + t) - F (a + h + t) * G (t * d) % (P : Int)) % (P : Int)) = jnB F G a h d P (t + 1) from jnB_s ht2] at hP hD
            have hP : va_P (dC, dI) vwCl [(hh, .inr (0, [.ref lf, .ref rt, .ref rp])), (ra, .inl (cJ, 512, .inr (.inl (fun j => lI ((jnB F G a h d P (t + 1)) j))))), (rp, .inl (cJ, 256, .inr (.inl (fun j => lI (G j)))))] H := hP
            have hD : va_D A [(hh, .inr (0, [.ref lf, .ref rt, .ref rp])), (ra, .inl (cJ, 512, .inr (.inl (fun j => lI ((jnB F G a h d P (t + 1)) j))))), (rp, .inl (cJ, 256, .inr (.inl (fun j => lI (G j)))))] := hD
            refine lv_iinc (v := nI (t + 1)) (lv' := [(6, .int (nI (t + 1))), (13, .long (lI ((F (a + t)) - (((F (a + h + t)) * (G (t * d))) % ((P : Nat) : Int))))), (11, .long (lI ((F (a + t)) + (((F (a + h + t)) * (G (t * d))) % ((P : Nat) : Int))))), (9, .long (lI (((F (a + h + t)) * (G (t * d))) % ((P : Nat) : Int)))), (7, .long (lI (F (a + t)))), (5, .int (nI P)), (4, .int (nI d)), (3, .int (nI h)), (2, .int (nI a)), (1, .ref ra), (0, .ref hh)]) hx hb dX0_joinBlock_108 hl (k := 4) rfl (nI_add t 1) (by decide) rfl (fun ls hl => ?_)
            refine lv_goto (tgt := 3) hx hb dX0_joinBlock_111 (by decide) ?_
            exact ih_3  (t + 1) (by omega) (by omega) _ _ _ (hP.sub [0, 1, 2] rfl) (hD.sub [0, 1, 2] (by decide) rfl) hS (lv_sub hl [0, 5, 6, 7, 8, 9, 10] rfl)
  exact key_3 (h + 1) 0 (by omega) (by omega) _ _ _ (hP.sub [0, 1, 2] rfl) (hD.sub [0, 1, 2] (by decide) rfl) hS (lv_sub hl [0, 6, 5, 4, 3, 2, 1] rfl)
