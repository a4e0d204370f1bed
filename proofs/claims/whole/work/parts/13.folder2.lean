abbrev q_X0_turnIntoValues (dC : Nat → ClassId) (dI : Nat → Nat → Nat) (cJ : ClassId) (hh lf rt rp ra : Nat) (F G : Nat → Int) (k P : Nat) (A : Nat → Prop) : Array Value → State → Outcome → State → Prop := va_Qv (fun (u : Unit) => True) (fun u t => va_P (dC, dI) vwCl [(hh, .inr (0, [.ref lf, .ref rt, .ref rp])), (ra, .inl (cJ, 512, .inr (.inl (fun j => lI ((fwd F G k P k) j))))), (rp, .inl (cJ, 256, .inr (.inl (fun j => lI (G j)))))] t.heap ∧ va_D A [(hh, .inr (0, [.ref lf, .ref rt, .ref rp])), (ra, .inl (cJ, 512, .inr (.inl (fun j => lI ((fwd F G k P k) j))))), (rp, .inl (cJ, 256, .inr (.inl (fun j => lI (G j)))))]) A
set_option maxHeartbeats 4000000 in
set_option maxRecDepth 100000 in
theorem c_X0_turnIntoValues (l : Launch) (dC : Nat → ClassId) (dI : Nat → Nat → Nat) (cJ : ClassId) (hh lf rt rp ra : Nat) (F G : Nat → Int) (k P : Nat) (sz : Nat) (zF : inR F (2 ^ k) P) (zG : inR G (2 ^ k / 2) P) (zk : k ≤ 9) (hp1 : 1 < P) (hp2 : P ≤ 2 ^ 30) : Met l yX0_turnIntoValues wsX0_turnIntoValues ({ frames := 1, cells := 0, slots := 0, locals := 32 }) (va_Pc [.ref hh, .ref ra, .int (nI k), .int (nI P)] (fun U => U.heap.size = sz ∧ va_P (dC, dI) vwCl [(hh, .inr (0, [.ref lf, .ref rt, .ref rp])), (ra, .inl (cJ, 512, .inr (.inl (fun j => lI (F j))))), (rp, .inl (cJ, 256, .inr (.inl (fun j => lI (G j)))))] U.heap ∧ va_K (dC, dI) vwCl [(cJ, .long)] U ∧ va_D (fun _ => True) [(hh, .inr (0, [.ref lf, .ref rt, .ref rp])), (ra, .inl (cJ, 512, .inr (.inl (fun j => lI (F j))))), (rp, .inl (cJ, 256, .inr (.inl (fun j => lI (G j)))))])) (q_X0_turnIntoValues dC dI cJ hh lf rt rp ra F G k P (va_A [(hh, .inr (0, [.ref lf, .ref rt, .ref rp])), (ra, .inl (cJ, 512, .inr (.inl (fun j => lI (F j))))), (rp, .inl (cJ, 256, .inr (.inl (fun j => lI (G j)))))] sz)) 0 0 (va_A [(hh, .inr (0, [.ref lf, .ref rt, .ref rp])), (ra, .inl (cJ, 512, .inr (.inl (fun j => lI (F j))))), (rp, .inl (cJ, 256, .inr (.inl (fun j => lI (G j)))))] sz) := by
  refine Met.ofW (cc := cX0_turnIntoValues) (maxL := 8) (ret := none) (by decide) rfl ?_
  intro p e s m args below meth c s₁ B hml hv
  obtain ⟨rfl, hsz, hP, hK, hD0⟩ := hv
  have hx := B.exec
  have hb := B.bytes
  have hr := B.returns
  have hts := atoms_spec (ws := wsX0_turnIntoValues) B.pre
  have hown : s.vm.findClass RX0 = some m.cls := findClass_of_methodNamed B.named
  have hlocks := B.notSynchronized
  subst hsz
  have hD := hD0.self (sz := s.heap.size)
  generalize hAe : va_A [(hh, .inr (0, [.ref lf, .ref rt, .ref rp])), (ra, .inl (cJ, 512, .inr (.inl (fun j => lI (F j))))), (rp, .inl (cJ, 256, .inr (.inl (fun j => lI (G j)))))] s.heap.size = A at hD ⊢
  have hA : ∀ q : Nat, s.heap.size ≤ q → A q := fun q h => by rw [← hAe]; exact Or.inr h
  have hS : va_S A s.heap s.heap [] := va_S.rf
  have hP : va_P (dC, dI) vwCl [(hh, .inr (0, [.ref lf, .ref rt, .ref rp])), (ra, .inl (cJ, 512, .inr (.inl (fun j => lI (F j))))), (rp, .inl (cJ, 256, .inr (.inl (fun j => lI (G j)))))] s.heap := hP
  have hl := lv_entry (([.ref hh, .ref ra, .int (nI k), .int (nI P)] : List Value)) (n := 8) (Nat.le_of_ble_eq_true rfl)
  rw [lg_entry_eq]
  generalize (lg_sl (([.ref hh, .ref ra, .int (nI k), .int (nI P)] : List Value)) ++ List.replicate (8 - (lg_sl (([.ref hh, .ref ra, .int (nI k), .int (nI P)] : List Value))).length) Slot.unset).toArray = ls at hl ⊢
  have hl : lv_has ls 8 [(0, .ref hh), (1, .ref ra), (2, .int (nI k)), (3, .int (nI P))] := hl
  obtain ⟨H, hHe⟩ : ∃ H : Heap, H = s.heap := ⟨_, rfl⟩
  rw [← hHe] at hP
  have hS : va_S A s.heap H [] := by rw [hHe]; exact hS
  obtain ⟨locs, hlo⟩ : ∃ L : List Loc, L = [] := ⟨_, rfl⟩
  rw [← hlo] at hS ⊢
  rw [← hHe]
  have hpk := pw9 zk
  refine lv_iconst (v := nI 1) hx hb dX0_turnIntoValues_0 (by decide) ?_
  refine lv_iload_n hx hb dX0_turnIntoValues_1 rfl (lv_at hl 2 rfl) ?_
  refine lv_ishl hx hb dX0_turnIntoValues_2 ?_
  refine W.eq (congrArg (fun z => F0 m _ ls (.int z :: _)) (show (nI 1) <<< ((nI k) &&& 31) = nI (2 ^ k) from zz_shl (by omega))) ?_
  refine lv_istore (lv' := [(4, .int (nI (2 ^ k))), (0, .ref hh), (1, .ref ra), (2, .int (nI k)), (3, .int (nI P))]) hx hb dX0_turnIntoValues_3 hl (by decide) rfl (fun ls hl => ?_)
  refine lv_iload_n hx hb dX0_turnIntoValues_5 rfl (lv_at hl 3 rfl) ?_
  refine lv_iconst (v := nI 1) hx hb dX0_turnIntoValues_6 (by decide) ?_
  refine lv_isub hx hb dX0_turnIntoValues_7 ?_
  refine W.eq (congrArg (fun z => F0 m _ ls (.int z :: _)) (show (nI k) - (nI 1) = zm k from zm_i k)) ?_
  rw [show F = fwd F G k P (k - k) from by rw [Nat.sub_self]; rfl] at hP hD
  have hP : va_P (dC, dI) vwCl [(hh, .inr (0, [.ref lf, .ref rt, .ref rp])), (ra, .inl (cJ, 512, .inr (.inl (fun j => lI ((fwd F G k P (k - k)) j))))), (rp, .inl (cJ, 256, .inr (.inl (fun j => lI (G j)))))] H := hP
  have hD : va_D A [(hh, .inr (0, [.ref lf, .ref rt, .ref rp])), (ra, .inl (cJ, 512, .inr (.inl (fun j => lI ((fwd F G k P (k - k)) j))))), (rp, .inl (cJ, 256, .inr (.inl (fun j => lI (G j)))))] := hD
  refine lv_istore (lv' := [(5, .int (zm k)), (4, .int (nI (2 ^ k))), (0, .ref hh), (1, .ref ra), (2, .int (nI k)), (3, .int (nI P))]) hx hb dX0_turnIntoValues_8 hl (by decide) rfl (fun ls hl => ?_)
  have key_10 : ∀ (fuel : Nat) (n : Nat), (n ≤ k) → (n < fuel) → ∀ (H : Heap) (locs : List Loc) (ls : Array Slot), va_P (dC, dI) vwCl [(hh, .inr (0, [.ref lf, .ref rt, .ref rp])), (ra, .inl (cJ, 512, .inr (.inl (fun j => lI ((fwd F G k P (k - n)) j))))), (rp, .inl (cJ, 256, .inr (.inl (fun j => lI (G j)))))] H → va_D A [(hh, .inr (0, [.ref lf, .ref rt, .ref rp])), (ra, .inl (cJ, 512, .inr (.inl (fun j => lI ((fwd F G k P (k - n)) j))))), (rp, .inl (cJ, 256, .inr (.inl (fun j => lI (G j)))))] → va_S A s.heap H locs → lv_has ls 8 [(5, .int (zm n)), (4, .int (nI (2 ^ k))), (3, .int (nI P)), (2, .int (nI k)), (1, .ref ra), (0, .ref hh)] → W p l e (headSpec wsX0_turnIntoValues { frames := 1, cells := 0, slots := 0, locals := 32 }).room s m ([.ref hh, .ref ra, .int (nI k), .int (nI P)] : List Value).toArray below meth c H locs 0 0 (MQ below (q_X0_turnIntoValues dC dI cJ hh lf rt rp ra F G k P  A) ([.ref hh, .ref ra, .int (nI k), .int (nI P)] : List Value).toArray s 0 0 A) (F0 m 10 ls []) := by
    intro fuel
    induction fuel with
    | zero => intro n; intros; omega
    | succ fuel ih_10 =>
      intro n hn hfu H locs ls hP hD hS hl
      rcases n with _ | v
      · refine lv_iload hx hb dX0_turnIntoValues_10 (lv_at hl 0 rfl) ?_
        refine lv_if_lt (tgt := 66) hx hb dX0_turnIntoValues_12 (by decide) (fun c_1 => ?_) (fun c_1 => ?_)
        · rw [show fwd F G k P (k - 0) = fwd F G k P k from by rw [Nat.sub_zero]] at hP hD
          have hP : va_P (dC, dI) vwCl [(hh, .inr (0, [.ref lf, .ref rt, .ref rp])), (ra, .inl (cJ, 512, .inr (.inl (fun j => lI ((fwd F G k P k) j))))), (rp, .inl (cJ, 256, .inr (.inl (fun j => lI (G j)))))] H := hP
          have hD : va_D A [(hh, .inr (0, [.ref lf, .ref rt, .ref rp])), (ra, .inl (cJ, 512, .inr (.inl (fun j => lI ((fwd F G k P k) j))))), (rp, .inl (cJ, 256, .inr (.inl (fun j => lI (G j)))))] := hD
          have hP9 : va_P (dC, dI) vwCl [(hh, .inr (0, [.ref lf, .ref rt, .ref rp])), (ra, .inl (cJ, 512, .inr (.inl (fun j => lI ((fwd F G k P k) j))))), (rp, .inl (cJ, 256, .inr (.inl (fun j => lI (G j)))))] H := hP.sub [0, 1, 2] rfl
          have hD9 : va_D A [(hh, .inr (0, [.ref lf, .ref rt, .ref rp])), (ra, .inl (cJ, 512, .inr (.inl (fun j => lI ((fwd F G k P k) j))))), (rp, .inl (cJ, 256, .inr (.inl (fun j => lI (G j)))))] := hD.sub [0, 1, 2] (by decide) rfl
          exact W.vret hx hb hr (fun t ht hW => ⟨⟨(), rfl, trivial, by rw [ht]; exact hP9, hD9⟩, hS.F ht⟩) hS.2.2 dX0_turnIntoValues_66
        · exact absurd zm_0 c_1
      · rw [zm_s] at hl
        have hv : v < k := by omega
        obtain ⟨e1, e2, e3, e4, e5⟩ := lvl zk hv
        refine lv_iload hx hb dX0_turnIntoValues_10 (lv_at hl 0 rfl) ?_
        refine lv_if_lt (tgt := 66) hx hb dX0_turnIntoValues_12 (by decide) (fun c_2 => ?_) (fun c_2 => ?_)
        · have c_2 : v < 0 := (nI_ltI (a := v) (b := 0) (by omega) (by omega)).mp c_2
          omega
        · have c_2 : ¬ (v < 0) := fun zq9 => c_2 ((nI_ltI (a := v) (b := 0) (by omega) (by omega)).mpr zq9)
          refine lv_iconst (v := nI 1) hx hb dX0_turnIntoValues_15 (by decide) ?_
          refine lv_iload hx hb dX0_turnIntoValues_16 (lv_at hl 0 rfl) ?_
          refine lv_ishl hx hb dX0_turnIntoValues_18 ?_
          refine W.eq (congrArg (fun z => F0 m _ ls (.int z :: _)) (show (nI 1) <<< ((nI v) &&& 31) = nI (2 ^ v) from zz_shl (by omega))) ?_
          refine lv_istore (lv' := [(6, .int (nI (2 ^ v))), (5, .int (nI v)), (4, .int (nI (2 ^ k))), (3, .int (nI P)), (2, .int (nI k)), (1, .ref ra), (0, .ref hh)]) hx hb dX0_turnIntoValues_19 hl (by decide) rfl (fun ls hl => ?_)
          refine lv_iconst (v := nI 0) hx hb dX0_turnIntoValues_21 (by decide) ?_
          rw [show fwd F G k P (k - (v + 1)) = spP (fwd F G k P (k - (v + 1))) G (2 ^ v) (2 ^ k / (2 * 2 ^ v)) P 0 from (spP_0 _ _ _ _ _).symm] at hP hD
          have hP : va_P (dC, dI) vwCl [(hh, .inr (0, [.ref lf, .ref rt, .ref rp])), (ra, .inl (cJ, 512, .inr (.inl (fun j => lI ((spP (fwd F G k P (k - (v + 1))) G (2 ^ v) (2 ^ k / (2 * 2 ^ v)) P 0) j))))), (rp, .inl (cJ, 256, .inr (.inl (fun j => lI (G j)))))] H := hP
          have hD : va_D A [(hh, .inr (0, [.ref lf, .ref rt, .ref rp])), (ra, .inl (cJ, 512, .inr (.inl (fun j => lI ((spP (fwd F G k P (k - (v + 1))) G (2 ^ v) (2 ^ k / (2 * 2 ^ v)) P 0) j))))), (rp, .inl (cJ, 256, .inr (.inl (fun j => lI (G j)))))] := hD
          refine lv_istore (lv' := [(7, .int (nI 0)), (6, .int (nI (2 ^ v))), (5, .int (nI v)), (4, .int (nI (2 ^ k))), (3, .int (nI P)), (2, .int (nI k)), (1, .ref ra), (0, .ref hh)]) hx hb dX0_turnIntoValues_22 hl (by decide) rfl (fun ls hl => ?_)
          have key_24 : ∀ (fuel : Nat) (a : Nat), (a ≤ 2 ^ k) → (a % (2 * 2 ^ v) = 0) → (2 ^ k - a < fuel) → ∀ (H : Heap) (locs : List Loc) (ls : Array Slot), va_P (dC, dI) vwCl [(hh, .inr (0, [.ref lf, .ref rt, .ref rp])), (ra, .inl (cJ, 512, .inr (.inl (fun j => lI ((spP (fwd F G k P (k - (v + 1))) G (2 ^ v) (2 ^ k / (2 * 2 ^ v)) P a) j))))), (rp, .inl (cJ, 256, .inr (.inl (fun j => lI (G j)))))] H → va_D A [(hh, .inr (0, [.ref lf, .ref rt, .ref rp])), (ra, .inl (cJ, 512, .inr (.inl (fun j => lI ((spP (fwd F G k P (k - (v + 1))) G (2 ^ v) (2 ^ k / (2 * 2 ^ v)) P a) j))))), (rp, .inl (cJ, 256, .inr (.inl (fun j => lI (G j)))))] → va_S A s.heap H locs → lv_has ls 8 [(7, .int (nI a)), (6, .int (nI (2 ^ v))), (5, .int (nI v)), (4, .int (nI (2 ^ k))), (3, .int (nI P)), (2, .int (nI k)), (1, .ref ra), (0, .ref hh)] → W p l e (headSpec wsX0_turnIntoValues { frames := 1, cells := 0, slots := 0, locals := 32 }).room s m ([.ref hh, .ref ra, .int (nI k), .int (nI P)] : List Value).toArray below meth c H locs 0 0 (MQ below (q_X0_turnIntoValues dC dI cJ hh lf rt rp ra F G k P  A) ([.ref hh, .ref ra, .int (nI k), .int (nI P)] : List Value).toArray s 0 0 A) (F0 m 24 ls []) := by
            intro fuel
            induction fuel with
            | zero => intro a; intros; omega
            | succ fuel ih_24 =>
              intro a ha1 ha2 hfu H locs ls hP hD hS hl
              refine lv_iload hx hb dX0_turnIntoValues_24 (lv_at hl 0 rfl) ?_
              refine lv_iload hx hb dX0_turnIntoValues_26 (lv_at hl 3 rfl) ?_
              refine lv_icmp_ge (tgt := 60) hx hb dX0_turnIntoValues_28 (by decide) (fun c_3 => ?_) (fun c_3 => ?_)
              · have c_3 : 2 ^ k ≤ a := (nI_leI (a := 2 ^ k) (b := a) (by omega) (by omega)).mp c_3
                rw [show spP (fwd F G k P (k - (v + 1))) G (2 ^ v) (2 ^ k / (2 * 2 ^ v)) P a = fwd F G k P (k - v) from by rw [show a = 2 ^ k by omega, show k - v = (k - (v + 1)) + 1 by omega]; show _ = spP _ _ (2 ^ (k - 1 - (k - (v + 1)))) (2 ^ k / (2 * 2 ^ (k - 1 - (k - (v + 1))))) _ _; rw [show k - 1 - (k - (v + 1)) = v by omega]] at hP hD
                have hP : va_P (dC, dI) vwCl [(hh, .inr (0, [.ref lf, .ref rt, .ref rp])), (ra, .inl (cJ, 512, .inr (.inl (fun j => lI ((fwd F G k P (k - v)) j))))), (rp, .inl (cJ, 256, .inr (.inl (fun j => lI (G j)))))] H := hP
                have hD : va_D A [(hh, .inr (0, [.ref lf, .ref rt, .ref rp])), (ra, .inl (cJ, 512, .inr (.inl (fun j => lI ((fwd F G k P (k - v)) j))))), (rp, .inl (cJ, 256, .inr (.inl (fun j => lI (G j)))))] := hD
                refine lv_iinc (v := zm v) (lv' := [(5, .int (zm v)), (7, .int (nI a)), (6, .int (nI (2 ^ v))), (4, .int (nI (2 ^ k))), (3, .int (nI P)), (2, .int (nI k)), (1, .ref ra), (0, .ref hh)]) hx hb dX0_turnIntoValues_60 hl (k := 2) rfl (rfl) (by decide) rfl (fun ls hl => ?_)
                refine lv_goto (tgt := 10) hx hb dX0_turnIntoValues_63 (by decide) ?_
                exact ih_10  v (by omega) (by omega) _ _ _ (hP.sub [0, 1, 2] rfl) (hD.sub [0, 1, 2] (by decide) rfl) hS (lv_sub hl [0, 3, 4, 5, 6, 7] rfl)
              · have c_3 : ¬ (2 ^ k ≤ a) := fun zq9 => c_3 ((nI_leI (a := 2 ^ k) (b := a) (by omega) (by omega)).mpr zq9)
                have hbn := blk_next ha2 e1 (by omega) e4
                refine lv_aload_n hx hb dX0_turnIntoValues_31 rfl (lv_at hl 7 rfl) ?_
                refine lv_aload_n hx hb dX0_turnIntoValues_32 rfl (lv_at hl 6 rfl) ?_
                refine lv_iload hx hb dX0_turnIntoValues_33 (lv_at hl 0 rfl) ?_
                refine lv_iload hx hb dX0_turnIntoValues_35 (lv_at hl 1 rfl) ?_
                refine lv_iload hx hb dX0_turnIntoValues_37 (lv_at hl 3 rfl) ?_
                refine lv_iconst (v := nI 2) hx hb dX0_turnIntoValues_39 (by decide) ?_
                refine lv_iload hx hb dX0_turnIntoValues_40 (lv_at hl 1 rfl) ?_
                refine lv_imul hx hb dX0_turnIntoValues_42 ?_
                refine W.eq (congrArg (fun z => F0 m _ ls (.int z :: _)) (show (nI 2) * (nI (2 ^ v)) = nI (2 * (2 ^ v)) from pk_mul 2 (2 ^ v))) ?_
                refine lv_idiv hx hb dX0_turnIntoValues_43 (nI_ne0 (by omega) (by omega)) ?_
                refine W.eq (congrArg (fun z => F0 m _ ls (.int z :: _)) (show nI (2 ^ k) / nI (2 * (2 ^ v)) = nI ((2 ^ k) / (2 * (2 ^ v))) from pk_div (by omega) (by omega) (by omega))) ?_
                refine lv_iload_n hx hb dX0_turnIntoValues_44 rfl (lv_at hl 4 rfl) ?_
                have hPc := hP.sub (ws' := [(hh, .inr (0, [.ref lf, .ref rt, .ref rp])), (ra, .inl (cJ, 512, .inr (.inl (fun j => lI ((spP (fwd F G k P (k - (v + 1))) G (2 ^ v) (2 ^ k / (2 * 2 ^ v)) P a) j))))), (rp, .inl (cJ, 256, .inr (.inl (fun j => lI (G j)))))]) [0, 1, 2] rfl
                have hDc := hD.sub (ws' := [(hh, .inr (0, [.ref lf, .ref rt, .ref rp])), (ra, .inl (cJ, 512, .inr (.inl (fun j => lI ((spP (fwd F G k P (k - (v + 1))) G (2 ^ v) (2 ^ k / (2 * 2 ^ v)) P a) j))))), (rp, .inl (cJ, 256, .inr (.inl (fun j => lI (G j)))))]) [0, 1, 2] (by decide) rfl
                have hKc := hK.sub (tys' := [(cJ, .long)]) [0] rfl
                have hFc := va_free (wc := [(hh, .inr (0, [.ref lf, .ref rt, .ref rp])), (ra, .inl (cJ, 512, .inr (.inl (fun j => lI ((spP (fwd F G k P (k - (v + 1))) G (2 ^ v) (2 ^ k / (2 * 2 ^ v)) P a) j))))), (rp, .inl (cJ, 256, .inr (.inl (fun j => lI (G j)))))]) hD hS hA [0, 1, 2] rfl
                refine va_callv (va_runV (As := [.ref ra, .int (nI a), .int (nI (2 ^ v)), .int (nI ((2 ^ k) / (2 * (2 ^ v)))), .int (nI P)]) (rest := []) ⟨hx, hb, hml, hown, hts⟩ (c_X0_splitBlock l dC dI cJ hh lf rt rp ra (spP (fwd F G k P (k - (v + 1))) G (2 ^ v) (2 ^ k / (2 * 2 ^ v)) P a) G a (2 ^ v) ((2 ^ k) / (2 * (2 ^ v))) P H.size (fun j hj => spP_rng (by omega) (fwd_rng (by omega) zF _) j (by omega)) (fun j hj => zG j (by omega)) (by omega) e2 (by omega) (by omega) (by omega)) (cwV 5 hts gX0_turnIntoValues_X0_splitBlock rfl rfl rfl (by decide +kernel) ⟨Nat.le_of_ble_eq_true rfl, Nat.le_of_ble_eq_true rfl⟩) ⟨fun a U g mk q => by obtain ⟨q0, q1, qP, qK, qD⟩ := q; exact ⟨q0, q1, qP, va_K.moved (u := U) (U := U.calling g mk a) (Vm.Alike.refl U.vm) qK, qD⟩, va_recv hKc hPc (ci := 0) (q0 := 0) rfl rfl, fun U hU hW => ⟨rfl, by rw [hU], by rw [hU]; exact hPc, va_K.moved hW.alike hKc, hDc.weaken (fun _ _ _ _ => trivial)⟩⟩ rfl rfl hl.1 rfl (lv_room (Nat.le_of_ble_eq_true rfl)) dX0_turnIntoValues_45 ⟨Nat.le_of_ble_eq_true rfl, Nat.le_of_ble_eq_true rfl⟩) hS (fun q _ h => hFc q h) hFc (fun u9 t9 H1 locs ht hvm hw hB hz1 hk1 hS => ?_)
                obtain ⟨hP1, hD1⟩ := hB
                rw [ht] at hP1
                try dsimp only at hw
                obtain ⟨hP, hD⟩ := va_join (wr := []) (w1 := [(hh, .inr (0, [.ref lf, .ref rt, .ref rp])), (ra, .inl (cJ, 512, .inr (.inl (fun j => lI ((spB (spP (fwd F G k P (k - (v + 1))) G (2 ^ v) (2 ^ k / (2 * 2 ^ v)) P a) G a (2 ^ v) ((2 ^ k) / (2 * (2 ^ v))) P (2 ^ v)) j))))), (rp, .inl (cJ, 256, .inr (.inl (fun j => lI (G j)))))]) hP hD [0, 1, 2] [] rfl rfl (by decide) (by decide) hk1 hFc hP1 hD1
                generalize H1 = H at hP hS ⊢
                have hP : va_P (dC, dI) vwCl [(hh, .inr (0, [.ref lf, .ref rt, .ref rp])), (ra, .inl (cJ, 512, .inr (.inl (fun j => lI ((spB (spP (fwd F G k P (k - (v + 1))) G (2 ^ v) (2 ^ k / (2 * 2 ^ v)) P a) G a (2 ^ v) ((2 ^ k) / (2 * (2 ^ v))) P (2 ^ v)) j))))), (rp, .inl (cJ, 256, .inr (.inl (fun j => lI (G j)))))] H := hP
                have hD : va_D A [(hh, .inr (0, [.ref lf, .ref rt, .ref rp])), (ra, .inl (cJ, 512, .inr (.inl (fun j => lI ((spB (spP (fwd F G k P (k - (v + 1))) G (2 ^ v) (2 ^ k / (2 * 2 ^ v)) P a) G a (2 ^ v) ((2 ^ k) / (2 * (2 ^ v))) P (2 ^ v)) j))))), (rp, .inl (cJ, 256, .inr (.inl (fun j => lI (G j)))))] := hD
                clear hPc hDc hKc hFc hP1 hD1 hk1 hz1 hvm ht
                clear hw
                rw [show spB (spP (fwd F G k P (k - (v + 1))) G (2 ^ v) (2 ^ k / (2 * 2 ^ v)) P a) G a (2 ^ v) ((2 ^ k) / (2 * (2 ^ v))) P (2 ^ v) = spP (fwd F G k P (k - (v + 1))) G (2 ^ v) (2 ^ k / (2 * 2 ^ v)) P (a + 2 * 2 ^ v) from spP_s ha2] at hP hD
                have hP : va_P (dC, dI) vwCl [(hh, .inr (0, [.ref lf, .ref rt, .ref rp])), (ra, .inl (cJ, 512, .inr (.inl (fun j => lI ((spP (fwd F G k P (k - (v + 1))) G (2 ^ v) (2 ^ k / (2 * 2 ^ v)) P (a + 2 * 2 ^ v)) j))))), (rp, .inl (cJ, 256, .inr (.inl (fun j => lI (G j)))))] H := hP
                have hD : va_D A [(hh, .inr (0, [.ref lf, .ref rt, .ref rp])), (ra, .inl (cJ, 512, .inr (.inl (fun j => lI ((spP (fwd F G k P (k - (v + 1))) G (2 ^ v) (2 ^ k / (2 * 2 ^ v)) P (a + 2 * 2 ^ v)) j))))), (rp, .inl (cJ, 256, .inr (.inl (fun j => lI (G j)))))] := hD
                refine lv_iload hx hb dX0_turnIntoValues_48 (lv_at hl 0 rfl) ?_
                refine lv_iconst (v := nI 2) hx hb dX0_turnIntoValues_50 (by decide) ?_
                refine lv_iload hx hb dX0_turnIntoValues_51 (lv_at hl 1 rfl) ?_
                refine lv_imul hx hb dX0_turnIntoValues_53 ?_
                refine W.eq (congrArg (fun z => F0 m _ ls (.int z :: _)) (show (nI 2) * (nI (2 ^ v)) = nI (2 * (2 ^ v)) from pk_mul 2 (2 ^ v))) ?_
                refine lv_iadd hx hb dX0_turnIntoValues_54 ?_
                refine W.eq (congrArg (fun z => F0 m _ ls (.int z :: _)) (show (nI a) + (nI (2 * (2 ^ v))) = nI (a + (2 * (2 ^ v))) from nI_add a (2 * (2 ^ v)))) ?_
                refine lv_istore (lv' := [(7, .int (nI (a + (2 * (2 ^ v))))), (6, .int (nI (2 ^ v))), (5, .int (nI v)), (4, .int (nI (2 ^ k))), (3, .int (nI P)), (2, .int (nI k)), (1, .ref ra), (0, .ref hh)]) hx hb dX0_turnIntoValues_55 hl (by decide) rfl (fun ls hl => ?_)
                refine lv_goto (tgt := 24) hx hb dX0_turnIntoValues_57 (by decide) ?_
                exact ih_24  (a + 2 * 2 ^ v) (hbn.1) (hbn.2) (by omega) _ _ _ (hP.sub [0, 1, 2] rfl) (hD.sub [0, 1, 2] (by decide) rfl) hS (lv_sub hl [0, 1, 2, 3, 4, 5, 6, 7] rfl)
          exact key_24 (2 ^ k + 1) 0 (by omega) (Nat.zero_mod _) (by omega) _ _ _ (hP.sub [0, 1, 2] rfl) (hD.sub [0, 1, 2] (by decide) rfl) hS (lv_sub hl [0, 1, 2, 3, 4, 5, 6, 7] rfl)
  exact key_10 (k + 1) k (by omega) (by omega) _ _ _ (hP.sub [0, 1, 2] rfl) (hD.sub [0, 1, 2] (by decide) rfl) hS (lv_sub hl [0, 1, 5, 4, 3, 2] rfl)

abbrev q_X0_turnBack (dC : Nat → ClassId) (dI : Nat → Nat → Nat) (cJ : ClassId) (hh lf rt rp ra : Nat) (F G : Nat → Int) (k P : Nat) (A : Nat → Prop) : Array Value → State → Outcome → State → Prop := va_Qv (fun (u : Unit) => True) (fun u t => va_P (dC, dI) vwCl [(hh, .inr (0, [.ref lf, .ref rt, .ref rp])), (ra, .inl (cJ, 512, .inr (.inl (fun j => lI ((mlW (bwd F G k P k) ((2 ^ k : Int) ^ (P - 2) % (P : Int)) P (2 ^ k)) j))))), (rp, .inl (cJ, 256, .inr (.inl (fun j => lI (G j)))))] t.heap ∧ va_D A [(hh, .inr (0, [.ref lf, .ref rt, .ref rp])), (ra, .inl (cJ, 512, .inr (.inl (fun j => lI ((mlW (bwd F G k P k) ((2 ^ k : Int) ^ (P - 2) % (P : Int)) P (2 ^ k)) j))))), (rp, .inl (cJ, 256, .inr (.inl (fun j => lI (G j)))))]) A
set_option maxHeartbeats 4000000 in
set_option maxRecDepth 100000 in
theorem c_X0_turnBack (l : Launch) (dC : Nat → ClassId) (dI : Nat → Nat → Nat) (cJ : ClassId) (hh lf rt rp ra : Nat) (F G : Nat → Int) (k P : Nat) (sz : Nat) (zF : inR F (2 ^ k) P) (zG : inR G (2 ^ k / 2) P) (zk : k ≤ 9) (zk1 : 1 ≤ k) (zkP : 512 < P) (hp1 : 1 < P) (hp2 : P ≤ 2 ^ 30) : Met l yX0_turnBack wsX0_turnBack ({ frames := 2, cells := 0, slots := 0, locals := 50 }) (va_Pc [.ref hh, .ref ra, .int (nI k), .int (nI P)] (fun U => U.heap.size = sz ∧ va_P (dC, dI) vwCl [(hh, .inr (0, [.ref lf, .ref rt, .ref rp])), (ra, .inl (cJ, 512, .inr (.inl (fun j => lI (F j))))), (rp, .inl (cJ, 256, .inr (.inl (fun j => lI (G j)))))] U.heap ∧ va_K (dC, dI) vwCl [(cJ, .long)] U ∧ va_D (fun _ => True) [(hh, .inr (0, [.ref lf, .ref rt, .ref rp])), (ra, .inl (cJ, 512, .inr (.inl (fun j => lI (F j))))), (rp, .inl (cJ, 256, .inr (.inl (fun j => lI (G j)))))])) (q_X0_turnBack dC dI cJ hh lf rt rp ra F G k P (va_A [(hh, .inr (0, [.ref lf, .ref rt, .ref rp])), (ra, .inl (cJ, 512, .inr (.inl (fun j => lI (F j))))), (rp, .inl (cJ, 256, .inr (.inl (fun j => lI (G j)))))] sz)) 0 0 (va_A [(hh, .inr (0, [.ref lf, .ref rt, .ref rp])), (ra, .inl (cJ, 512, .inr (.inl (fun j => lI (F j))))), (rp, .inl (cJ, 256, .inr (.inl (fun j => lI (G j)))))] sz) := by
  refine Met.ofW (cc := cX0_turnBack) (maxL := 8) (ret := none) (by decide) rfl ?_
  intro p e s m args below meth c s₁ B hml hv
  obtain ⟨rfl, hsz, hP, hK, hD0⟩ := hv
  have hx := B.exec
  have hb := B.bytes
  have hr := B.returns
  have hts := atoms_spec (ws := wsX0_turnBack) B.pre
  have hown : s.vm.findClass RX0 = some m.cls := findClass_of_methodNamed B.named
  have hlocks := B.notSynchronized
  subst hsz
  have hD := hD0.self (sz := s.heap.size)
  generalize hAe : va_A [(hh, .inr (0, [.ref lf, .ref rt, .ref rp])), (ra, .inl (cJ, 512, .inr (.inl (fun j => lI (F j))))), (rp, .inl (cJ, 256, .inr (.inl (fun j => lI (G j)))))] s.heap.size = A at hD ⊢
  have hA : ∀ q : Nat, s.heap.size ≤ q → A q := fun q h => by rw [← hAe]; exact Or.inr h
  have hS : va_S A s.heap s.heap [] := va_S.rf
  have hP : va_P (dC, dI) vwCl [(hh, .inr (0, [.ref lf, .ref rt, .ref rp])), (ra, .inl (cJ, 512, .inr (.inl (fun j => lI (F j))))), (rp, .inl (cJ, 256, .inr (.inl (fun j => lI (G j)))))] s.heap := hP
  have hl := lv_entry (([.ref hh, .ref ra, .int (nI k), .int (nI P)] : List Value)) (n := 8) (Nat.le_of_ble_eq_true rfl)
  rw [lg_entry_eq]
  generalize (lg_sl (([.ref hh, .ref ra, .int (nI k), .int (nI P)] : List Value)) ++ List.replicate (8 - (lg_sl (([.ref hh, .ref ra, .int (nI k), .int (nI P)] : List Value))).length) Slot.unset).toArray = ls at hl ⊢
  have hl : lv_has ls 8 [(0, .ref hh), (1, .ref ra), (2, .int (nI k)), (3, .int (nI P))] := hl
  obtain ⟨H, hHe⟩ : ∃ H : Heap, H = s.heap := ⟨_, rfl⟩
  rw [← hHe] at hP
  have hS : va_S A s.heap H [] := by rw [hHe]; exact hS
  obtain ⟨locs, hlo⟩ : ∃ L : List Loc, L = [] := ⟨_, rfl⟩
  rw [← hlo] at hS ⊢
  rw [← hHe]
  have hpk := pw9 zk
  refine lv_iconst (v := nI 1) hx hb dX0_turnBack_0 (by decide) ?_
  refine lv_iload_n hx hb dX0_turnBack_1 rfl (lv_at hl 2 rfl) ?_
  refine lv_ishl hx hb dX0_turnBack_2 ?_
  refine W.eq (congrArg (fun z => F0 m _ ls (.int z :: _)) (show (nI 1) <<< ((nI k) &&& 31) = nI (2 ^ k) from zz_shl (by omega))) ?_
  refine lv_istore (lv' := [(4, .int (nI (2 ^ k))), (0, .ref hh), (1, .ref ra), (2, .int (nI k)), (3, .int (nI P))]) hx hb dX0_turnBack_3 hl (by decide) rfl (fun ls hl => ?_)
  refine lv_iconst (v := nI 0) hx hb dX0_turnBack_5 (by decide) ?_
  rw [show F = bwd F G k P 0 from rfl] at hP hD
  have hP : va_P (dC, dI) vwCl [(hh, .inr (0, [.ref lf, .ref rt, .ref rp])), (ra, .inl (cJ, 512, .inr (.inl (fun j => lI ((bwd F G k P 0) j))))), (rp, .inl (cJ, 256, .inr (.inl (fun j => lI (G j)))))] H := hP
  have hD : va_D A [(hh, .inr (0, [.ref lf, .ref rt, .ref rp])), (ra, .inl (cJ, 512, .inr (.inl (fun j => lI ((bwd F G k P 0) j))))), (rp, .inl (cJ, 256, .inr (.inl (fun j => lI (G j)))))] := hD
  refine lv_istore (lv' := [(5, .int (nI 0)), (4, .int (nI (2 ^ k))), (0, .ref hh), (1, .ref ra), (2, .int (nI k)), (3, .int (nI P))]) hx hb dX0_turnBack_6 hl (by decide) rfl (fun ls hl => ?_)
  have key_8 : ∀ (fuel : Nat) (v : Nat), (v ≤ k) → (k - v < fuel) → ∀ (H : Heap) (locs : List Loc) (ls : Array Slot), va_P (dC, dI) vwCl [(hh, .inr (0, [.ref lf, .ref rt, .ref rp])), (ra, .inl (cJ, 512, .inr (.inl (fun j => lI ((bwd F G k P v) j))))), (rp, .inl (cJ, 256, .inr (.inl (fun j => lI (G j)))))] H → va_D A [(hh, .inr (0, [.ref lf, .ref rt, .ref rp])), (ra, .inl (cJ, 512, .inr (.inl (fun j => lI ((bwd F G k P v) j))))), (rp, .inl (cJ, 256, .inr (.inl (fun j => lI (G j)))))] → va_S A s.heap H locs → lv_has ls 8 [(5, .int (nI v)), (4, .int (nI (2 ^ k))), (3, .int (nI P)), (2, .int (nI k)), (1, .ref ra), (0, .ref hh)] → W p l e (headSpec wsX0_turnBack { frames := 2, cells := 0, slots := 0, locals := 50 }).room s m ([.ref hh, .ref ra, .int (nI k), .int (nI P)] : List Value).toArray below meth c H locs 0 0 (MQ below (q_X0_turnBack dC dI cJ hh lf rt rp ra F G k P  A) ([.ref hh, .ref ra, .int (nI k), .int (nI P)] : List Value).toArray s 0 0 A) (F0 m 8 ls []) := by
    intro fuel
    induction fuel with
    | zero => intro v; intros; omega
    | succ fuel ih_8 =>
      intro v hv0 hfu H locs ls hP hD hS hl
      refine lv_iload hx hb dX0_turnBack_8 (lv_at hl 0 rfl) ?_
      refine lv_iload_n hx hb dX0_turnBack_10 rfl (lv_at hl 3 rfl) ?_
      refine lv_icmp_ge (tgt := 65) hx hb dX0_turnBack_11 (by decide) (fun c_1 => ?_) (fun c_1 => ?_)
      · have c_1 : k ≤ v := (nI_leI (a := k) (b := v) (by omega) (by omega)).mp c_1
        rw [show bwd F G k P v = bwd F G k P k from by rw [show v = k by omega]] at hP hD
        have hP : va_P (dC, dI) vwCl [(hh, .inr (0, [.ref lf, .ref rt, .ref rp])), (ra, .inl (cJ, 512, .inr (.inl (fun j => lI ((bwd F G k P k) j))))), (rp, .inl (cJ, 256, .inr (.inl (fun j => lI (G j)))))] H := hP
        have hD : va_D A [(hh, .inr (0, [.ref lf, .ref rt, .ref rp])), (ra, .inl (cJ, 512, .inr (.inl (fun j => lI ((bwd F G k P k) j))))), (rp, .inl (cJ, 256, .inr (.inl (fun j => lI (G j)))))] := hD
        refine lv_iload hx hb dX0_turnBack_65 (lv_at hl 1 rfl) ?_
        refine lv_i2l (v := lI ((2 ^ k : Nat) : Int)) hx hb dX0_turnBack_67 (nI_lI (by omega)) ?_
        refine lv_iload_n hx hb dX0_turnBack_68 rfl (lv_at hl 2 rfl) ?_
        have hPc := hP.sub (ws' := []) [] rfl
        have hDc := hD.sub (ws' := []) [] (by decide) rfl
        have hKc := hK.sub (tys' := []) [] rfl
        have hFc := va_free (wc := []) hD hS hA [] rfl
        refine va_calll (va_runS (As := [.long (lI ((2 ^ k : Nat) : Int)), .int (nI P)]) (rest := []) ⟨hx, hb, hml, hown, hts⟩ (c_X1_inverse l dC dI ((2 ^ k : Nat) : Int) P H.size (by omega) (by omega) (by omega) (by omega)) (va_cwS 2 hts gX0_turnBack_X1_inverse rfl rfl rfl (by decide +kernel) ⟨Nat.le_of_ble_eq_true rfl, Nat.le_of_ble_eq_true rfl⟩) ⟨fun a U g mk q => by obtain ⟨q0, q1, qP, qK, qD⟩ := q; exact ⟨q0, q1, qP, va_K.moved (u := U) (U := U.calling g mk a) (Vm.Alike.refl U.vm) qK, qD⟩, fun U hU hW => ⟨rfl, by rw [hU], by rw [hU]; exact hPc, va_K.moved hW.alike hKc, hDc.weaken (fun _ _ _ _ => trivial)⟩⟩ rfl rfl hl.1 rfl (lv_room (Nat.le_of_ble_eq_true rfl)) dX0_turnBack_69 ⟨Nat.le_of_ble_eq_true rfl, Nat.le_of_ble_eq_true rfl⟩) hS (fun q _ h => hFc q h) hFc (fun r9 u9 t9 H1 locs ht hvm hw hB hz1 hk1 hS => ?_)
        obtain ⟨hP1, hD1⟩ := hB
        rw [ht] at hP1
        try dsimp only at hw
        obtain ⟨hP, hD⟩ := va_join (wr := [(hh, .inr (0, [.ref lf, .ref rt, .ref rp])), (ra, .inl (cJ, 512, .inr (.inl (fun j => lI ((bwd F G k P k) j))))), (rp, .inl (cJ, 256, .inr (.inl (fun j => lI (G j)))))]) (w1 := []) hP hD [] [0, 1, 2] rfl rfl (by decide) (by decide) hk1 hFc hP1 hD1
        generalize H1 = H at hP hS ⊢
        have hP : va_P (dC, dI) vwCl [(hh, .inr (0, [.ref lf, .ref rt, .ref rp])), (ra, .inl (cJ, 512, .inr (.inl (fun j => lI ((bwd F G k P k) j))))), (rp, .inl (cJ, 256, .inr (.inl (fun j => lI (G j)))))] H := hP
        have hD : va_D A [(hh, .inr (0, [.ref lf, .ref rt, .ref rp])), (ra, .inl (cJ, 512, .inr (.inl (fun j => lI ((bwd F G k P k) j))))), (rp, .inl (cJ, 256, .inr (.inl (fun j => lI (G j)))))] := hD
        clear hPc hDc hKc hFc hP1 hD1 hk1 hz1 hvm ht
        subst hw
        obtain ⟨z, hz⟩ : ∃ z : Int, z = ((2 ^ k : Nat) : Int) ^ (P - 2) % ((P : Nat) : Int) := ⟨_, rfl⟩
        rw [← hz]
        have hz1 := emod_rng ((2 ^ k : Int) ^ (P - 2)) (show (0 : Int) < P by omega)
        rw [show ((2 ^ k : Nat) : Int) = (2 ^ k : Int) by exact Int.natCast_pow 2 k] at hz
        rw [← hz] at hz1
        refine lv_lstore (lv' := [(5, .long (lI z)), (4, .int (nI (2 ^ k))), (3, .int (nI P)), (2, .int (nI k)), (1, .ref ra), (0, .ref hh)]) hx hb dX0_turnBack_72 hl (by decide) rfl (fun ls hl => ?_)
        refine lv_iconst (v := nI 0) hx hb dX0_turnBack_74 (by decide) ?_
        rw [show bwd F G k P k = mlW (bwd F G k P k) z P 0 from (mlW_0 _ _ _).symm] at hP hD
        have hP : va_P (dC, dI) vwCl [(hh, .inr (0, [.ref lf, .ref rt, .ref rp])), (ra, .inl (cJ, 512, .inr (.inl (fun j => lI ((mlW (bwd F G k P k) z P 0) j))))), (rp, .inl (cJ, 256, .inr (.inl (fun j => lI (G j)))))] H := hP
        have hD : va_D A [(hh, .inr (0, [.ref lf, .ref rt, .ref rp])), (ra, .inl (cJ, 512, .inr (.inl (fun j => lI ((mlW (bwd F G k P k) z P 0) j))))), (rp, .inl (cJ, 256, .inr (.inl (fun j => lI (G j)))))] := hD
        refine lv_istore (lv' := [(7, .int (nI 0)), (5, .long (lI z)), (4, .int (nI (2 ^ k))), (3, .int (nI P)), (2, .int (nI k)), (1, .ref ra), (0, .ref hh)]) hx hb dX0_turnBack_75 hl (by decide) rfl (fun ls hl => ?_)
        have key_77 : ∀ (fuel : Nat) (i : Nat), (i ≤ 2 ^ k) → (2 ^ k - i < fuel) → ∀ (H : Heap) (locs : List Loc) (ls : Array Slot), va_P (dC, dI) vwCl [(hh, .inr (0, [.ref lf, .ref rt, .ref rp])), (ra, .inl (cJ, 512, .inr (.inl (fun j => lI ((mlW (bwd F G k P k) z P i) j))))), (rp, .inl (cJ, 256, .inr (.inl (fun j => lI (G j)))))] H → va_D A [(hh, .inr (0, [.ref lf, .ref rt, .ref rp])), (ra, .inl (cJ, 512, .inr (.inl (fun j => lI ((mlW (bwd F G k P k) z P i) j))))), (rp, .inl (cJ, 256, .inr (.inl (fun j => lI (G j)))))] → va_S A s.heap H locs → lv_has ls 8 [(7, .int (nI i)), (5, .long (lI z)), (4, .int (nI (2 ^ k))), (3, .int (nI P)), (2, .int (nI k)), (1, .ref ra), (0, .ref hh)] → W p l e (headSpec wsX0_turnBack { frames := 2, cells := 0, slots := 0, locals := 50 }).room s m ([.ref hh, .ref ra, .int (nI k), .int (nI P)] : List Value).toArray below meth c H locs 0 0 (MQ below (q_X0_turnBack dC dI cJ hh lf rt rp ra F G k P  A) ([.ref hh, .ref ra, .int (nI k), .int (nI P)] : List Value).toArray s 0 0 A) (F0 m 77 ls []) := by
          intro fuel
          induction fuel with
          | zero => intro i; intros; omega
          | succ fuel ih_77 =>
            intro i hi hfu H locs ls hP hD hS hl
            refine lv_iload hx hb dX0_turnBack_77 (lv_at hl 0 rfl) ?_
            refine lv_iload hx hb dX0_turnBack_79 (lv_at hl 2 rfl) ?_
            refine lv_icmp_ge (tgt := 104) hx hb dX0_turnBack_81 (by decide) (fun c_2 => ?_) (fun c_2 => ?_)
            · have c_2 : 2 ^ k ≤ i := (nI_leI (a := 2 ^ k) (b := i) (by omega) (by omega)).mp c_2
              rw [show mlW (bwd F G k P k) z P i = mlW (bwd F G k P k) ((2 ^ k : Int) ^ (P - 2) % (P : Int)) P (2 ^ k) from by rw [show i = 2 ^ k by omega, hz]] at hP hD
              have hP : va_P (dC, dI) vwCl [(hh, .inr (0, [.ref lf, .ref rt, .ref rp])), (ra, .inl (cJ, 512, .inr (.inl (fun j => lI ((mlW (bwd F G k P k) ((2 ^ k : Int) ^ (P - 2) % (P : Int)) P (2 ^ k)) j))))), (rp, .inl (cJ, 256, .inr (.inl (fun j => lI (G j)))))] H := hP
              have hD : va_D A [(hh, .inr (0, [.ref lf, .ref rt, .ref rp])), (ra, .inl (cJ, 512, .inr (.inl (fun j => lI ((mlW (bwd F G k P k) ((2 ^ k : Int) ^ (P - 2) % (P : Int)) P (2 ^ k)) j))))), (rp, .inl (cJ, 256, .inr (.inl (fun j => lI (G j)))))] := hD
              have hP9 : va_P (dC, dI) vwCl [(hh, .inr (0, [.ref lf, .ref rt, .ref rp])), (ra, .inl (cJ, 512, .inr (.inl (fun j => lI ((mlW (bwd F G k P k) ((2 ^ k : Int) ^ (P - 2) % (P : Int)) P (2 ^ k)) j))))), (rp, .inl (cJ, 256, .inr (.inl (fun j => lI (G j)))))] H := hP.sub [0, 1, 2] rfl
              have hD9 : va_D A [(hh, .inr (0, [.ref lf, .ref rt, .ref rp])), (ra, .inl (cJ, 512, .inr (.inl (fun j => lI ((mlW (bwd F G k P k) ((2 ^ k : Int) ^ (P - 2) % (P : Int)) P (2 ^ k)) j))))), (rp, .inl (cJ, 256, .inr (.inl (fun j => lI (G j)))))] := hD.sub [0, 1, 2] (by decide) rfl
              exact W.vret hx hb hr (fun t ht hW => ⟨⟨(), rfl, trivial, by rw [ht]; exact hP9, hD9⟩, hS.F ht⟩) hS.2.2 dX0_turnBack_104
            · have c_2 : ¬ (2 ^ k ≤ i) := fun zq9 => c_2 ((nI_leI (a := 2 ^ k) (b := i) (by omega) (by omega)).mpr zq9)
              have fb := bwd_rng (G := G) (k := k) (show (0 : Int) < P by omega) zF k i (by omega)
              have b1 := mul_b30 fb.1 fb.2 hz1.1 hz1.2 (by omega)
              refine lv_aload_n hx hb dX0_turnBack_84 rfl (lv_at hl 5 rfl) ?_
              refine lv_iload hx hb dX0_turnBack_85 (lv_at hl 0 rfl) ?_
              refine lv_aload_n hx hb dX0_turnBack_87 rfl (lv_at hl 5 rfl) ?_
              refine lv_iload hx hb dX0_turnBack_88 (lv_at hl 0 rfl) ?_
              refine va_lald hx hb hK hP 1 0 rfl rfl (vp_in_nI (by omega) (by omega)) dX0_turnBack_90 ?_
              refine W.eq (g2 := F0 m _ ls [.long (lI ((mlW (bwd F G k P k) z P i) i)), .int (nI i), .ref ra]) (by rw [nI_clamp (by omega)]) ?_
              refine W.eq (congrArg (fun z => F0 m _ ls (.long z :: _)) (show lI ((mlW (bwd F G k P k) z P i) i) = lI (bwd F G k P k i) from congrArg lI mlW_i)) ?_
              refine lv_lload hx hb dX0_turnBack_91 (lv_at hl 1 rfl) ?_
              refine lv_lmul hx hb dX0_turnBack_93 ?_
              refine W.eq (congrArg (fun z => F0 m _ ls (.long z :: _)) (show lI (bwd F G k P k i) * lI z = lI ((bwd F G k P k i) * z) from lI_mul (bwd F G k P k i) z)) ?_
              refine lv_iload_n hx hb dX0_turnBack_94 rfl (lv_at hl 3 rfl) ?_
              refine lv_i2l (v := lI ((P : Nat) : Int)) hx hb dX0_turnBack_95 (nI_lI (by omega)) ?_
              refine lv_lrem hx hb dX0_turnBack_96 (fun zq9 => absurd ((lI_eq (b := 0) (by omega) (by omega) (by omega) (by omega)).mp zq9) (by omega)) ?_
              refine W.eq (congrArg (fun z => F0 m _ ls (.long z :: _)) (show lI ((bwd F G k P k i) * z) - lI ((bwd F G k P k i) * z) / lI ((P : Nat) : Int) * lI ((P : Nat) : Int) = lI (((bwd F G k P k i) * z) % ((P : Nat) : Int)) from lI_rem0 (by omega) (by omega) (by omega) (by omega))) ?_
              refine va_last hx hb hK hP hD hS 1 0 rfl rfl (vp_in_nI (by omega) (by omega)) dX0_turnBack_97 (fun H locs hP hD hS => ?_)
              rw [nI_clamp (show i < 2 ^ 31 by omega)] at hP hD
              rw [upI_l] at hP hD
              have hP : va_P (dC, dI) vwCl [(hh, .inr (0, [.ref lf, .ref rt, .ref rp])), (ra, .inl (cJ, 512, .inr (.inl (fun j => lI ((upI (mlW (bwd F G k P k) z P i) i (((bwd F G k P k i) * z) % ((P : Nat) : Int))) j))))), (rp, .inl (cJ, 256, .inr (.inl (fun j => lI (G j)))))] H := hP
              have hD : va_D A [(hh, .inr (0, [.ref lf, .ref rt, .ref rp])), (ra, .inl (cJ, 512, .inr (.inl (fun j => lI ((upI (mlW (bwd F G k P k) z P i) i (((bwd F G k P k i) * z) % ((P : Nat) : Int))) j))))), (rp, .inl (cJ, 256, .inr (.inl (fun j => lI (G j)))))] := hD
              rw [show upI (mlW (bwd F G k P k) z P i) i (((bwd F G k P k i) * z) % ((P : Nat) : Int)) = mlW (bwd F G k P k) z P (i + 1) from mlW_s] at hP hD
              have hP : va_P (dC, dI) vwCl [(hh, .inr (0, [.ref lf, .ref rt, .ref rp])), (ra, .inl (cJ, 512, .inr (.inl (fun j => lI ((mlW (bwd F G k P k) z P (i + 1)) j))))), (rp, .inl (cJ, 256, .inr (.inl (fun j => lI (G j)))))] H := hP
              have hD : va_D A [(hh, .inr (0, [.ref lf, .ref rt, .ref rp])), (ra, .inl (cJ, 512, .inr (.inl (fun j => lI ((mlW (bwd F G k P k) z P (i + 1)) j))))), (rp, .inl (cJ, 256, .inr (.inl (fun j => lI (G j)))))] := hD
              refine lv_iinc (v := nI (i + 1)) (lv' := [(7, .int (nI (i + 1))), (5, .long (lI z)), (4, .int (nI (2 ^ k))), (3, .int (nI P)), (2, .int (nI k)), (1, .ref ra), (0, .ref hh)]) hx hb dX0_turnBack_98 hl (k := 0) rfl (nI_add i 1) (by decide) rfl (fun ls hl => ?_)
              refine lv_goto (tgt := 77) hx hb dX0_turnBack_101 (by decide) ?_
              exact ih_77  (i + 1) (by omega) (by omega) _ _ _ (hP.sub [0, 1, 2] rfl) (hD.sub [0, 1, 2] (by decide) rfl) hS (lv_sub hl [0, 1, 2, 3, 4, 5, 6] rfl)
        exact key_77 (2 ^ k + 1) 0 (by omega) (by omega) _ _ _ (hP.sub [0, 1, 2] rfl) (hD.sub [0, 1, 2] (by decide) rfl) hS (lv_sub hl [0, 1, 2, 3, 4, 5, 6] rfl)
      · have c_1 : ¬ (k ≤ v) := fun zq9 => c_1 ((nI_leI (a := k) (b := v) (by omega) (by omega)).mpr zq9)
        have hv : v < k := by omega
        obtain ⟨e1, e2, e3, e4, e5⟩ := lvl zk hv
        refine lv_iconst (v := nI 1) hx hb dX0_turnBack_14 (by decide) ?_
        refine lv_iload hx hb dX0_turnBack_15 (lv_at hl 0 rfl) ?_
        refine lv_ishl hx hb dX0_turnBack_17 ?_
        refine W.eq (congrArg (fun z => F0 m _ ls (.int z :: _)) (show (nI 1) <<< ((nI v) &&& 31) = nI (2 ^ v) from zz_shl (by omega))) ?_
        refine lv_istore (lv' := [(6, .int (nI (2 ^ v))), (5, .int (nI v)), (4, .int (nI (2 ^ k))), (3, .int (nI P)), (2, .int (nI k)), (1, .ref ra), (0, .ref hh)]) hx hb dX0_turnBack_18 hl (by decide) rfl (fun ls hl => ?_)
        refine lv_iconst (v := nI 0) hx hb dX0_turnBack_20 (by decide) ?_
        rw [show bwd F G k P v = jnP (bwd F G k P v) G (2 ^ v) (2 ^ k / (2 * 2 ^ v)) P 0 from (jnP_0 _ _ _ _ _).symm] at hP hD
        have hP : va_P (dC, dI) vwCl [(hh, .inr (0, [.ref lf, .ref rt, .ref rp])), (ra, .inl (cJ, 512, .inr (.inl (fun j => lI ((jnP (bwd F G k P v) G (2 ^ v) (2 ^ k / (2 * 2 ^ v)) P 0) j))))), (rp, .inl (cJ, 256, .inr (.inl (fun j => lI (G j)))))] H := hP
        have hD : va_D A [(hh, .inr (0, [.ref lf, .ref rt, .ref rp])), (ra, .inl (cJ, 512, .inr (.inl (fun j => lI ((jnP (bwd F G k P v) G (2 ^ v) (2 ^ k / (2 * 2 ^ v)) P 0) j))))), (rp, .inl (cJ, 256, .inr (.inl (fun j => lI (G j)))))] := hD
        refine lv_istore (lv' := [(7, .int (nI 0)), (6, .int (nI (2 ^ v))), (5, .int (nI v)), (4, .int (nI (2 ^ k))), (3, .int (nI P)), (2, .int (nI k)), (1, .ref ra), (0, .ref hh)]) hx hb dX0_turnBack_21 hl (by decide) rfl (fun ls hl => ?_)
        have key_23 : ∀ (fuel : Nat) (a : Nat), (a ≤ 2 ^ k) → (a % (2 * 2 ^ v) = 0) → (2 ^ k - a < fuel) → ∀ (H : Heap) (locs : List Loc) (ls : Array Slot), va_P (dC, dI) vwCl [(hh, .inr (0, [.ref lf, .ref rt, .ref rp])), (ra, .inl (cJ, 512, .inr (.inl (fun j => lI ((jnP (bwd F G k P v) G (2 ^ v) (2 ^ k / (2 * 2 ^ v)) P a) j))))), (rp, .inl (cJ, 256, .inr (.inl (fun j => lI (G j)))))] H → va_D A [(hh, .inr (0, [.ref lf, .ref rt, .ref rp])), (ra, .inl (cJ, 512, .inr (.inl (fun j => lI ((jnP (bwd F G k P v) G (2 ^ v) (2 ^ k / (2 * 2 ^ v)) P a) j))))), (rp, .inl (cJ, 256, .inr (.inl (fun j => lI (G j)))))] → va_S A s.heap H locs → lv_has ls 8 [(7, .int (nI a)), (6, .int (nI (2 ^ v))), (5, .int (nI v)), (4, .int (nI (2 ^ k))), (3, .int (nI P)), (2, .int (nI k)), (1, .ref ra), (0, .ref hh)] → W p l e (headSpec wsX0_turnBack { frames := 2, cells := 0, slots := 0, locals := 50 }).room s m ([.ref hh, .ref ra, .int (nI k), .int (nI P)] : List Value).toArray below meth c H locs 0 0 (MQ below (q_X0_turnBack dC dI cJ hh lf rt rp ra F G k P  A) ([.ref hh, .ref ra, .int (nI k), .int (nI P)] : List Value).toArray s 0 0 A) (F0 m 23 ls []) := by
          intro fuel
          induction fuel with
          | zero => intro a; intros; omega
          | succ fuel ih_23 =>
            intro a ha1 ha2 hfu H locs ls hP hD hS hl
            refine lv_iload hx hb dX0_turnBack_23 (lv_at hl 0 rfl) ?_
            refine lv_iload hx hb dX0_turnBack_25 (lv_at hl 3 rfl) ?_
            refine lv_icmp_ge (tgt := 59) hx hb dX0_turnBack_27 (by decide) (fun c_3 => ?_) (fun c_3 => ?_)
            · have c_3 : 2 ^ k ≤ a := (nI_leI (a := 2 ^ k) (b := a) (by omega) (by omega)).mp c_3
              rw [show jnP (bwd F G k P v) G (2 ^ v) (2 ^ k / (2 * 2 ^ v)) P a = bwd F G k P (v + 1) from by rw [show a = 2 ^ k by omega]; rfl] at hP hD
              have hP : va_P (dC, dI) vwCl [(hh, .inr (0, [.ref lf, .ref rt, .ref rp])), (ra, .inl (cJ, 512, .inr (.inl (fun j => lI ((bwd F G k P (v + 1)) j))))), (rp, .inl (cJ, 256, .inr (.inl (fun j => lI (G j)))))] H := hP
              have hD : va_D A [(hh, .inr (0, [.ref lf, .ref rt, .ref rp])), (ra, .inl (cJ, 512, .inr (.inl (fun j => lI ((bwd F G k P (v + 1)) j))))), (rp, .inl (cJ, 256, .inr (.inl (fun j => lI (G j)))))] := hD
              refine lv_iinc (v := nI (v + 1)) (lv' := [(5, .int (nI (v + 1))), (7, .int (nI a)), (6, .int (nI (2 ^ v))), (4, .int (nI (2 ^ k))), (3, .int (nI P)), (2, .int (nI k)), (1, .ref ra), (0, .ref hh)]) hx hb dX0_turnBack_59 hl (k := 2) rfl (nI_add v 1) (by decide) rfl (fun ls hl => ?_)
              refine lv_goto (tgt := 8) hx hb dX0_turnBack_62 (by decide) ?_
              exact ih_8  (v + 1) (by omega) (by omega) _ _ _ (hP.sub [0, 1, 2] rfl) (hD.sub [0, 1, 2] (by decide) rfl) hS (lv_sub hl [0, 3, 4, 5, 6, 7] rfl)
            · have c_3 : ¬ (2 ^ k ≤ a) := fun zq9 => c_3 ((nI_leI (a := 2 ^ k) (b := a) (by omega) (by omega)).mpr zq9)
              have hbn := blk_next ha2 e1 (by omega) e4
              refine lv_aload_n hx hb dX0_turnBack_30 rfl (lv_at hl 7 rfl) ?_
              refine lv_aload_n hx hb dX0_turnBack_31 rfl (lv_at hl 6 rfl) ?_
              refine lv_iload hx hb dX0_turnBack_32 (lv_at hl 0 rfl) ?_
              refine lv_iload hx hb dX0_turnBack_34 (lv_at hl 1 rfl) ?_
              refine lv_iload hx hb dX0_turnBack_36 (lv_at hl 3 rfl) ?_
              refine lv_iconst (v := nI 2) hx hb dX0_turnBack_38 (by decide) ?_
              refine lv_iload hx hb dX0_turnBack_39 (lv_at hl 1 rfl) ?_
              refine lv_imul hx hb dX0_turnBack_41 ?_
              refine W.eq (congrArg (fun z => F0 m _ ls (.int z :: _)) (show (nI 2) * (nI (2 ^ v)) = nI (2 * (2 ^ v)) from pk_mul 2 (2 ^ v))) ?_
              refine lv_idiv hx hb dX0_turnBack_42 (nI_ne0 (by omega) (by omega)) ?_
              refine W.eq (congrArg (fun z => F0 m _ ls (.int z :: _)) (show nI (2 ^ k) / nI (2 * (2 ^ v)) = nI ((2 ^ k) / (2 * (2 ^ v))) from pk_div (by omega) (by omega) (by omega))) ?_
              refine lv_iload_n hx hb dX0_turnBack_43 rfl (lv_at hl 4 rfl) ?_
              have hPc := hP.sub (ws' := [(hh, .inr (0, [.ref lf, .ref rt, .ref rp])), (ra, .inl (cJ, 512, .inr (.inl (fun j => lI ((jnP (bwd F G k P v) G (2 ^ v) (2 ^ k / (2 * 2 ^ v)) P a) j))))), (rp, .inl (cJ, 256, .inr (.inl (fun j => lI (G j)))))]) [0, 1, 2] rfl
              have hDc := hD.sub (ws' := [(hh, .inr (0, [.ref lf, .ref rt, .ref rp])), (ra, .inl (cJ, 512, .inr (.inl (fun j => lI ((jnP (bwd F G k P v) G (2 ^ v) (2 ^ k / (2 * 2 ^ v)) P a) j))))), (rp, .inl (cJ, 256, .inr (.inl (fun j => lI (G j)))))]) [0, 1, 2] (by decide) rfl
              have hKc := hK.sub (tys' := [(cJ, .long)]) [0] rfl
              have hFc := va_free (wc := [(hh, .inr (0, [.ref lf, .ref rt, .ref rp])), (ra, .inl (cJ, 512, .inr (.inl (fun j => lI ((jnP (bwd F G k P v) G (2 ^ v) (2 ^ k / (2 * 2 ^ v)) P a) j))))), (rp, .inl (cJ, 256, .inr (.inl (fun j => lI (G j)))))]) hD hS hA [0, 1, 2] rfl
              refine va_callv (va_runV (As := [.ref ra, .int (nI a), .int (nI (2 ^ v)), .int (nI ((2 ^ k) / (2 * (2 ^ v)))), .int (nI P)]) (rest := []) ⟨hx, hb, hml, hown, hts⟩ (c_X0_joinBlock l dC dI cJ hh lf rt rp ra (jnP (bwd F G k P v) G (2 ^ v) (2 ^ k / (2 * 2 ^ v)) P a) G a (2 ^ v) ((2 ^ k) / (2 * (2 ^ v))) P H.size (fun j hj => jnP_rng (by omega) (bwd_rng (by omega) zF _) j (by omega)) (fun j hj => zG j (by omega)) (by omega) e2 (by omega) (by omega) (by omega)) (cwV 5 hts gX0_turnBack_X0_joinBlock rfl rfl rfl (by decide +kernel) ⟨Nat.le_of_ble_eq_true rfl, Nat.le_of_ble_eq_true rfl⟩) ⟨fun a U g mk q => by obtain ⟨q0, q1, qP, qK, qD⟩ := q; exact ⟨q0, q1, qP, va_K.moved (u := U) (U := U.calling g mk a) (Vm.Alike.refl U.vm) qK, qD⟩, va_recv hKc hPc (ci := 0) (q0 := 0) rfl rfl, fun U hU hW => ⟨rfl, by rw [hU], by rw [hU]; exact hPc, va_K.moved hW.alike hKc, hDc.weaken (fun _ _ _ _ => trivial)⟩⟩ rfl rfl hl.1 rfl (lv_room (Nat.le_of_ble_eq_true rfl)) dX0_turnBack_44 ⟨Nat.le_of_ble_eq_true rfl, Nat.le_of_ble_eq_true rfl⟩) hS (fun q _ h => hFc q h) hFc (fun u9 t9 H1 locs ht hvm hw hB hz1 hk1 hS => ?_)
              obtain ⟨hP1, hD1⟩ := hB
              rw [ht] at hP1
              try dsimp only at hw
              obtain ⟨hP, hD⟩ := va_join (wr := []) (w1 := [(hh, .inr (0, [.ref lf, .ref rt, .ref rp])), (ra, .inl (cJ, 512, .inr (.inl (fun j => lI ((jnB (jnP (bwd F G k P v) G (2 ^ v) (2 ^ k / (2 * 2 ^ v)) P a) G a (2 ^ v) ((2 ^ k) / (2 * (2 ^ v))) P (2 ^ v)) j))))), (rp, .inl (cJ, 256, .inr (.inl (fun j => lI (G j)))))]) hP hD [0, 1, 2] [] rfl rfl (by decide) (by decide) hk1 hFc hP1 hD1
              generalize H1 = H at hP hS ⊢
              have hP : va_P (dC, dI) vwCl [(hh, .inr (0, [.ref lf, .ref rt, .ref rp])), (ra, .inl (cJ, 512, .inr (.inl (fun j => lI ((jnB (jnP (bwd F G k P v) G (2 ^ v) (2 ^ k / (2 * 2 ^ v)) P a) G a (2 ^ v) ((2 ^ k) / (2 * (2 ^ v))) P (2 ^ v)) j))))), (rp, .inl (cJ, 256, .inr (.inl (fun j => lI (G j)))))] H := hP
              have hD : va_D A [(hh, .inr (0, [.ref lf, .ref rt, .ref rp])), (ra, .inl (cJ, 512, .inr (.inl (fun j => lI ((jnB (jnP (bwd F G k P v) G (2 ^ v) (2 ^ k / (2 * 2 ^ v)) P a) G a (2 ^ v) ((2 ^ k) / (2 * (2 ^ v))) P (2 ^ v)) j))))), (rp, .inl (cJ, 256, .inr (.inl (fun j => lI (G j)))))] := hD
              clear hPc hDc hKc hFc hP1 hD1 hk1 hz1 hvm ht
              clear hw
              rw [show jnB (jnP (bwd F G k P v) G (2 ^ v) (2 ^ k / (2 * 2 ^ v)) P a) G a (2 ^ v) ((2 ^ k) / (2 * (2 ^ v))) P (2 ^ v) = jnP (bwd F G k P v) G (2 ^ v) (2 ^ k / (2 * 2 ^ v)) P (a + 2 * 2 ^ v) from jnP_s ha2] at hP hD
              have hP : va_P (dC, dI) vwCl [(hh, .inr (0, [.ref lf, .ref rt, .ref rp])), (ra, .inl (cJ, 512, .inr (.inl (fun j => lI ((jnP (bwd F G k P v) G (2 ^ v) (2 ^ k / (2 * 2 ^ v)) P (a + 2 * 2 ^ v)) j))))), (rp, .inl (cJ, 256, .inr (.inl (fun j => lI (G j)))))] H := hP
              have hD : va_D A [(hh, .inr (0, [.ref lf, .ref rt, .ref rp])), (ra, .inl (cJ, 512, .inr (.inl (fun j => lI ((jnP (bwd F G k P v) G (2 ^ v) (2 ^ k / (2 * 2 ^ v)) P (a + 2 * 2 ^ v)) j))))), (rp, .inl (cJ, 256, .inr (.inl (fun j => lI (G j)))))] := hD
              refine lv_iload hx hb dX0_turnBack_47 (lv_at hl 0 rfl) ?_
              refine lv_iconst (v := nI 2) hx hb dX0_turnBack_49 (by decide) ?_
              refine lv_iload hx hb dX0_turnBack_50 (lv_at hl 1 rfl) ?_
              refine lv_imul hx hb dX0_turnBack_52 ?_
              refine W.eq (congrArg (fun z => F0 m _ ls (.int z :: _)) (show (nI 2) * (nI (2 ^ v)) = nI (2 * (2 ^ v)) from pk_mul 2 (2 ^ v))) ?_
              refine lv_iadd hx hb dX0_turnBack_53 ?_
              refine W.eq (congrArg (fun z => F0 m _ ls (.int z :: _)) (show (nI a) + (nI (2 * (2 ^ v))) = nI (a + (2 * (2 ^ v))) from nI_add a (2 * (2 ^ v)))) ?_
              refine lv_istore (lv' := [(7, .int (nI (a + (2 * (2 ^ v))))), (6, .int (nI (2 ^ v))), (5, .int (nI v)), (4, .int (nI (2 ^ k))), (3, .int (nI P)), (2, .int (nI k)), (1, .ref ra), (0, .ref hh)]) hx hb dX0_turnBack_54 hl (by decide) rfl (fun ls hl => ?_)
              refine lv_goto (tgt := 23) hx hb dX0_turnBack_56 (by decide) ?_
              exact ih_23  (a + 2 * 2 ^ v) (hbn.1) (hbn.2) (by omega) _ _ _ (hP.sub [0, 1, 2] rfl) (hD.sub [0, 1, 2] (by decide) rfl) hS (lv_sub hl [0, 1, 2, 3, 4, 5, 6, 7] rfl)
        exact key_23 (2 ^ k + 1) 0 (by omega) (Nat.zero_mod _) (by omega) _ _ _ (hP.sub [0, 1, 2] rfl) (hD.sub [0, 1, 2] (by decide) rfl) hS (lv_sub hl [0, 1, 2, 3, 4, 5, 6, 7] rfl)
  exact key_8 (k + 1) 0 (by omega) (by omega) _ _ _ (hP.sub [0, 1, 2] rfl) (hD.sub [0, 1, 2] (by decide) rfl) hS (lv_sub hl [0, 1, 5, 4, 3, 2] rfl)

abbrev q_X0_loadRemainders (dC : Nat → ClassId) (dI : Nat → Nat → Nat) (cI cJ : ClassId) (hh lf rt rp ra ia : Nat) (f : Nat → Int32) (F : Nat → Int) (n P : Nat) (A : Nat → Prop) : Array Value → State → Outcome → State → Prop := va_Qv (fun (u : Unit) => True) (fun u t => va_P (dC, dI) vwCl [(hh, .inr (0, [.ref lf, .ref rt, .ref rp])), (ra, .inl (cI, 256, .inl f)), (ia, .inl (cJ, 512, .inr (.inl (fun j => lI ((ldR f F n P n) j)))))] t.heap ∧ va_D A [(hh, .inr (0, [.ref lf, .ref rt, .ref rp])), (ra, .inl (cI, 256, .inl f)), (ia, .inl (cJ, 512, .inr (.inl (fun j => lI ((ldR f F n P n) j)))))]) A
set_option maxHeartbeats 4000000 in
set_option maxRecDepth 100000 in
theorem c_X0_loadRemainders (l : Launch) (dC : Nat → ClassId) (dI : Nat → Nat → Nat) (cI cJ : ClassId) (hh lf rt rp ra ia : Nat) (f : Nat → Int32) (F : Nat → Int) (n P : Nat) (sz : Nat) (zn : n ≤ 256) (hp1 : 1 < P) (hp2 : P ≤ 2 ^ 30) : Met l yX0_loadRemainders wsX0_loadRemainders ({ frames := 1, cells := 0, slots := 0, locals := 24 }) (va_Pc [.ref hh, .ref ra, .int (nI n), .ref ia, .int (nI P)] (fun U => U.heap.size = sz ∧ va_P (dC, dI) vwCl [(hh, .inr (0, [.ref lf, .ref rt, .ref rp])), (ra, .inl (cI, 256, .inl f)), (ia, .inl (cJ, 512, .inr (.inl (fun j => lI (F j)))))] U.heap ∧ va_K (dC, dI) vwCl [(cI, .int), (cJ, .long)] U ∧ va_D (fun _ => True) [(hh, .inr (0, [.ref lf, .ref rt, .ref rp])), (ra, .inl (cI, 256, .inl f)), (ia, .inl (cJ, 512, .inr (.inl (fun j => lI (F j)))))])) (q_X0_loadRemainders dC dI cI cJ hh lf rt rp ra ia f F n P (va_A [(hh, .inr (0, [.ref lf, .ref rt, .ref rp])), (ra, .inl (cI, 256, .inl f)), (ia, .inl (cJ, 512, .inr (.inl (fun j => lI (F j)))))] sz)) 0 0 (va_A [(hh, .inr (0, [.ref lf, .ref rt, .ref rp])), (ra, .inl (cI, 256, .inl f)), (ia, .inl (cJ, 512, .inr (.inl (fun j => lI (F j)))))] sz) := by
  refine Met.ofW (cc := cX0_loadRemainders) (maxL := 6) (ret := none) (by decide) rfl ?_
  intro p e s m args below meth c s₁ B hml hv
  obtain ⟨rfl, hsz, hP, hK, hD0⟩ := hv
  have hx := B.exec
  have hb := B.bytes
  have hr := B.returns
  have hts := atoms_spec (ws := wsX0_loadRemainders) B.pre
  have hown : s.vm.findClass RX0 = some m.cls := findClass_of_methodNamed B.named
  have hlocks := B.notSynchronized
  subst hsz
  have hD := hD0.self (sz := s.heap.size)
  generalize hAe : va_A [(hh, .inr (0, [.ref lf, .ref rt, .ref rp])), (ra, .inl (cI, 256, .inl f)), (ia, .inl (cJ, 512, .inr (.inl (fun j => lI (F j)))))] s.heap.size = A at hD ⊢
  have hA : ∀ q : Nat, s.heap.size ≤ q → A q := fun q h => by rw [← hAe]; exact Or.inr h
  have hS : va_S A s.heap s.heap [] := va_S.rf
  have hP : va_P (dC, dI) vwCl [(hh, .inr (0, [.ref lf, .ref rt, .ref rp])), (ra, .inl (cI, 256, .inl f)), (ia, .inl (cJ, 512, .inr (.inl (fun j => lI (F j)))))] s.heap := hP
  have hl := lv_entry (([.ref hh, .ref ra, .int (nI n), .ref ia, .int (nI P)] : List Value)) (n := 6) (Nat.le_of_ble_eq_true rfl)
  rw [lg_entry_eq]
  generalize (lg_sl (([.ref hh, .ref ra, .int (nI n), .ref ia, .int (nI P)] : List Value)) ++ List.replicate (6 - (lg_sl (([.ref hh, .ref ra, .int (nI n), .ref ia, .int (nI P)] : List Value))).length) Slot.unset).toArray = ls at hl ⊢
  have hl : lv_has ls 6 [(0, .ref hh), (1, .ref ra), (2, .int (nI n)), (3, .ref ia), (4, .int (nI P))] := hl
  obtain ⟨H, hHe⟩ : ∃ H : Heap, H = s.heap := ⟨_, rfl⟩
  rw [← hHe] at hP
  have hS : va_S A s.heap H [] := by rw [hHe]; exact hS
  obtain ⟨locs, hlo⟩ : ∃ L : List Loc, L = [] := ⟨_, rfl⟩
  rw [← hlo] at hS ⊢
  rw [← hHe]
  refine lv_iconst (v := nI 0) hx hb dX0_loadRemainders_0 (by decide) ?_
  rw [show F = ldR f F n P 0 from (ldR_0 _ _ _ _).symm] at hP hD
  have hP : va_P (dC, dI) vwCl [(hh, .inr (0, [.ref lf, .ref rt, .ref rp])), (ra, .inl (cI, 256, .inl f)), (ia, .inl (cJ, 512, .inr (.inl (fun j => lI ((ldR f F n P 0) j)))))] H := hP
  have hD : va_D A [(hh, .inr (0, [.ref lf, .ref rt, .ref rp])), (ra, .inl (cI, 256, .inl f)), (ia, .inl (cJ, 512, .inr (.inl (fun j => lI ((ldR f F n P 0) j)))))] := hD
  refine lv_istore (lv' := [(5, .int (nI 0)), (0, .ref hh), (1, .ref ra), (2, .int (nI n)), (3, .ref ia), (4, .int (nI P))]) hx hb dX0_loadRemainders_1 hl (by decide) rfl (fun ls hl => ?_)
  have key_3 : ∀ (fuel : Nat) (t : Nat), (t ≤ n) → (n - t < fuel) → ∀ (H : Heap) (locs : List Loc) (ls : Array Slot), va_P (dC, dI) vwCl [(hh, .inr (0, [.ref lf, .ref rt, .ref rp])), (ra, .inl (cI, 256, .inl f)), (ia, .inl (cJ, 512, .inr (.inl (fun j => lI ((ldR f F n P t) j)))))] H → va_D A [(hh, .inr (0, [.ref lf, .ref rt, .ref rp])), (ra, .inl (cI, 256, .inl f)), (ia, .inl (cJ, 512, .inr (.inl (fun j => lI ((ldR f F n P t) j)))))] → va_S A s.heap H locs → lv_has ls 6 [(5, .int (nI t)), (4, .int (nI P)), (3, .ref ia), (2, .int (nI n)), (1, .ref ra), (0, .ref hh)] → W p l e (headSpec wsX0_loadRemainders { frames := 1, cells := 0, slots := 0, locals := 24 }).room s m ([.ref hh, .ref ra, .int (nI n), .ref ia, .int (nI P)] : List Value).toArray below meth c H locs 0 0 (MQ below (q_X0_loadRemainders dC dI cI cJ hh lf rt rp ra ia f F n P  A) ([.ref hh, .ref ra, .int (nI n), .ref ia, .int (nI P)] : List Value).toArray s 0 0 A) (F0 m 3 ls []) := by
    intro fuel
    induction fuel with
    | zero => intro t; intros; omega
    | succ fuel ih_3 =>
      intro t ht hfu H locs ls hP hD hS hl
      refine lv_iload hx hb dX0_loadRemainders_3 (lv_at hl 0 rfl) ?_
      refine lv_iload_n hx hb dX0_loadRemainders_5 rfl (lv_at hl 3 rfl) ?_
      refine lv_icmp_ge (tgt := 36) hx hb dX0_loadRemainders_6 (by decide) (fun c_1 => ?_) (fun c_1 => ?_)
      · have c_1 : n ≤ t := (nI_leI (a := n) (b := t) (by omega) (by omega)).mp c_1
        rw [show ldR f F n P t = ldR f F n P n from by rw [show t = n by omega]] at hP hD
        have hP : va_P (dC, dI) vwCl [(hh, .inr (0, [.ref lf, .ref rt, .ref rp])), (ra, .inl (cI, 256, .inl f)), (ia, .inl (cJ, 512, .inr (.inl (fun j => lI ((ldR f F n P n) j)))))] H := hP
        have hD : va_D A [(hh, .inr (0, [.ref lf, .ref rt, .ref rp])), (ra, .inl (cI, 256, .inl f)), (ia, .inl (cJ, 512, .inr (.inl (fun j => lI ((ldR f F n P n) j)))))] := hD
        have hP9 : va_P (dC, dI) vwCl [(hh, .inr (0, [.ref lf, .ref rt, .ref rp])), (ra, .inl (cI, 256, .inl f)), (ia, .inl (cJ, 512, .inr (.inl (fun j => lI ((ldR f F n P n) j)))))] H := hP.sub [0, 1, 2] rfl
        have hD9 : va_D A [(hh, .inr (0, [.ref lf, .ref rt, .ref rp])), (ra, .inl (cI, 256, .inl f)), (ia, .inl (cJ, 512, .inr (.inl (fun j => lI ((ldR f F n P n) j)))))] := hD.sub [0, 1, 2] (by decide) rfl
        exact W.vret hx hb hr (fun t ht hW => ⟨⟨(), rfl, trivial, by rw [ht]; exact hP9, hD9⟩, hS.F ht⟩) hS.2.2 dX0_loadRemainders_36
      · have c_1 : ¬ (n ≤ t) := fun zq9 => c_1 ((nI_leI (a := n) (b := t) (by omega) (by omega)).mpr zq9)
        refine lv_aload_n hx hb dX0_loadRemainders_9 rfl (lv_at hl 2 rfl) ?_
        refine lv_iload hx hb dX0_loadRemainders_10 (lv_at hl 0 rfl) ?_
        refine lv_aload_n hx hb dX0_loadRemainders_12 rfl (lv_at hl 4 rfl) ?_
        refine lv_iload hx hb dX0_loadRemainders_13 (lv_at hl 0 rfl) ?_
        refine va_iald hx hb hK hP 1 0 rfl rfl (vp_in_nI (by omega) (by omega)) dX0_loadRemainders_15 ?_
        refine W.eq (g2 := F0 m _ ls [.int (f t), .int (nI t), .ref ia]) (by rw [nI_clamp (by omega)]) ?_
        refine lv_i2l (v := lI ((f t).toInt)) hx hb dX0_loadRemainders_16 (i2l_I (f t)) ?_
        refine lv_iload hx hb dX0_loadRemainders_17 (lv_at hl 1 rfl) ?_
        have b1 := Int32.le_toInt (f t)
        have b2 := Int32.toInt_lt (f t)
        have hPc := hP.sub (ws' := []) [] rfl
        have hDc := hD.sub (ws' := []) [] (by decide) rfl
        have hKc := hK.sub (tys' := []) [] rfl
        have hFc := va_free (wc := []) hD hS hA [] rfl
        refine va_calll (va_runS (As := [.long (lI ((f t).toInt)), .int (nI P)]) (rest := [.int (nI t), .ref ia]) ⟨hx, hb, hml, hown, hts⟩ (c_X1_remainder l dC dI ((f t).toInt) P H.size (by omega) (by omega) (by omega) (by omega)) (va_cwS 2 hts gX0_loadRemainders_X1_remainder rfl rfl rfl (by decide +kernel) ⟨Nat.le_of_ble_eq_true rfl, Nat.le_of_ble_eq_true rfl⟩) ⟨fun a U g mk q => by obtain ⟨q0, q1, qP, qK, qD⟩ := q; exact ⟨q0, q1, qP, va_K.moved (u := U) (U := U.calling g mk a) (Vm.Alike.refl U.vm) qK, qD⟩, fun U hU hW => ⟨rfl, by rw [hU], by rw [hU]; exact hPc, va_K.moved hW.alike hKc, hDc.weaken (fun _ _ _ _ => trivial)⟩⟩ rfl rfl hl.1 rfl (lv_room (Nat.le_of_ble_eq_true rfl)) dX0_loadRemainders_19 ⟨Nat.le_of_ble_eq_true rfl, Nat.le_of_ble_eq_true rfl⟩) hS (fun q _ h => hFc q h) hFc (fun r9 u9 t9 H1 locs ht hvm hw hB hz1 hk1 hS => ?_)
        obtain ⟨hP1, hD1⟩ := hB
        rw [ht] at hP1
        try dsimp only at hw
        obtain ⟨hP, hD⟩ := va_join (wr := [(hh, .inr (0, [.ref lf, .ref rt, .ref rp])), (ra, .inl (cI, 256, .inl f)), (ia, .inl (cJ, 512, .inr (.inl (fun j => lI ((ldR f F n P t) j)))))]) (w1 := []) hP hD [] [0, 1, 2] rfl rfl (by decide) (by decide) hk1 hFc hP1 hD1
        generalize H1 = H at hP hS ⊢
        have hP : va_P (dC, dI) vwCl [(hh, .inr (0, [.ref lf, .ref rt, .ref rp])), (ra, .inl (cI, 256, .inl f)), (ia, .inl (cJ, 512, .inr (.inl (fun j => lI ((ldR f F n P t) j)))))] H := hP
        have hD : va_D A [(hh, .inr (0, [.ref lf, .ref rt, .ref rp])), (ra, .inl (cI, 256, .inl f)), (ia, .inl (cJ, 512, .inr (.inl (fun j => lI ((ldR f F n P t) j)))))] := hD
        clear hPc hDc hKc hFc hP1 hD1 hk1 hz1 hvm ht
        subst hw
        refine va_last hx hb hK hP hD hS 2 1 rfl rfl (vp_in_nI (by omega) (by omega)) dX0_loadRemainders_22 (fun H locs hP hD hS => ?_)
        rw [nI_clamp (show t < 2 ^ 31 by omega)] at hP hD
        rw [upI_l] at hP hD
        have hP : va_P (dC, dI) vwCl [(hh, .inr (0, [.ref lf, .ref rt, .ref rp])), (ra, .inl (cI, 256, .inl f)), (ia, .inl (cJ, 512, .inr (.inl (fun j => lI ((upI (ldR f F n P t) t (((f t).toInt) % ((P : Nat) : Int))) j)))))] H := hP
        have hD : va_D A [(hh, .inr (0, [.ref lf, .ref rt, .ref rp])), (ra, .inl (cI, 256, .inl f)), (ia, .inl (cJ, 512, .inr (.inl (fun j => lI ((upI (ldR f F n P t) t (((f t).toInt) % ((P : Nat) : Int))) j)))))] := hD
        refine lv_aload_n hx hb dX0_loadRemainders_23 rfl (lv_at hl 2 rfl) ?_
        refine lv_iload hx hb dX0_loadRemainders_24 (lv_at hl 0 rfl) ?_
        refine lv_iload_n hx hb dX0_loadRemainders_26 rfl (lv_at hl 3 rfl) ?_
        refine lv_iadd hx hb dX0_loadRemainders_27 ?_
        refine W.eq (congrArg (fun z => F0 m _ ls (.int z :: _)) (show (nI t) + (nI n) = nI (t + n) from nI_add t n)) ?_
        refine lv_lconst (v := lI 0) hx hb dX0_loadRemainders_28 (by decide) ?_
        refine va_last hx hb hK hP hD hS 2 1 rfl rfl (vp_in_nI (by omega) (by omega)) dX0_loadRemainders_29 (fun H locs hP hD hS => ?_)
        rw [nI_clamp (show t + n < 2 ^ 31 by omega)] at hP hD
        rw [upI_l] at hP hD
        have hP : va_P (dC, dI) vwCl [(hh, .inr (0, [.ref lf, .ref rt, .ref rp])), (ra, .inl (cI, 256, .inl f)), (ia, .inl (cJ, 512, .inr (.inl (fun j => lI ((upI (upI (ldR f F n P t) t (((f t).toInt) % ((P : Nat) : Int))) (t + n) 0) j)))))] H := hP
        have hD : va_D A [(hh, .inr (0, [.ref lf, .ref rt, .ref rp])), (ra, .inl (cI, 256, .inl f)), (ia, .inl (cJ, 512, .inr (.inl (fun j => lI ((upI (upI (ldR f F n P t) t (((f t).toInt) % ((P : Nat) : Int))) (t + n) 0) j)))))] := hD
        rw [show upI (upI (ldR f F n P t) t (((f t).toInt) % ((P : Nat) : Int))) (t + n) 0 = ldR f F n P (t + 1) from ldR_s (by omega)] at hP hD
        have hP : va_P (dC, dI) vwCl [(hh, .inr (0, [.ref lf, .ref rt, .ref rp])), (ra, .inl (cI, 256, .inl f)), (ia, .inl (cJ, 512, .inr (.inl (fun j => lI ((ldR f F n P (t + 1)) j)))))] H := hP
        have hD : va_D A [(hh, .inr (0, [.ref lf, .ref rt, .ref rp])), (ra, .inl (cI, 256, .inl f)), (ia, .inl (cJ, 512, .inr (.inl (fun j => lI ((ldR f F n P (t + 1)) j)))))] := hD
        refine lv_iinc (v := nI (t + 1)) (lv' := [(5, .int (nI (t + 1))), (4, .int (nI P)), (3, .ref ia), (2, .int (nI n)), (1, .ref ra), (0, .ref hh)]) hx hb dX0_loadRemainders_30 hl (k := 0) rfl (nI_add t 1) (by decide) rfl (fun ls hl => ?_)
        refine lv_goto (tgt := 3) hx hb dX0_loadRemainders_33 (by decide) ?_
        exact ih_3  (t + 1) (by omega) (by omega) _ _ _ (hP.sub [0, 1, 2] rfl) (hD.sub [0, 1, 2] (by decide) rfl) hS (lv_sub hl [0, 1, 2, 3, 4, 5] rfl)
  exact key_3 (n + 1) 0 (by omega) (by omega) _ _ _ (hP.sub [0, 1, 2] rfl) (hD.sub [0, 1, 2] (by decide) rfl) hS (lv_sub hl [0, 5, 4, 3, 2, 1] rfl)

abbrev q_X0_takeAwayUpperHalf (dC : Nat → ClassId) (dI : Nat → Nat → Nat) (cJ : ClassId) (hh lf rt rp : Nat) (F : Nat → Int) (n P : Nat) (A : Nat → Prop) : Array Value → State → Outcome → State → Prop := va_Qv (fun (u : Unit) => True) (fun u t => va_P (dC, dI) vwCl [(hh, .inr (0, [.ref lf, .ref rt, .ref rp])), (lf, .inl (cJ, 512, .inr (.inl (fun j => lI ((tkU F n P n) j)))))] t.heap ∧ va_D A [(hh, .inr (0, [.ref lf, .ref rt, .ref rp])), (lf, .inl (cJ, 512, .inr (.inl (fun j => lI ((tkU F n P n) j)))))]) A
set_option maxHeartbeats 4000000 in
set_option maxRecDepth 100000 in
theorem c_X0_takeAwayUpperHalf (l : Launch) (dC : Nat → ClassId) (dI : Nat → Nat → Nat) (cJ : ClassId) (hh lf rt rp : Nat) (F : Nat → Int) (n P : Nat) (sz : Nat) (zF : inR F (2 * n) P) (zn : n ≤ 256) (hp1 : 1 < P) (hp2 : P ≤ 2 ^ 30) : Met l yX0_takeAwayUpperHalf wsX0_takeAwayUpperHalf ({ frames := 1, cells := 0, slots := 0, locals := 24 }) (va_Pc [.ref hh, .int (nI n), .int (nI P)] (fun U => U.heap.size = sz ∧ va_P (dC, dI) vwCl [(hh, .inr (0, [.ref lf, .ref rt, .ref rp])), (lf, .inl (cJ, 512, .inr (.inl (fun j => lI (F j)))))] U.heap ∧ va_K (dC, dI) vwCl [(cJ, .long)] U ∧ va_D (fun _ => True) [(hh, .inr (0, [.ref lf, .ref rt, .ref rp])), (lf, .inl (cJ, 512, .inr (.inl (fun j => lI (F j)))))])) (q_X0_takeAwayUpperHalf dC dI cJ hh lf rt rp F n P (va_A [(hh, .inr (0, [.ref lf, .ref rt, .ref rp])), (lf, .inl (cJ, 512, .inr (.inl (fun j => lI (F j)))))] sz)) 0 0 (va_A [(hh, .inr (0, [.ref lf, .ref rt, .ref rp])), (lf, .inl (cJ, 512, .inr (.inl (fun j => lI (F j)))))] sz) := by
  refine Met.ofW (cc := cX0_takeAwayUpperHalf) (maxL := 4) (ret := none) (by decide) rfl ?_
  intro p e s m args below meth c s₁ B hml hv
  obtain ⟨rfl, hsz, hP, hK, hD0⟩ := hv
  have hx := B.exec
  have hb := B.bytes
  have hr := B.returns
  have hts := atoms_spec (ws := wsX0_takeAwayUpperHalf) B.pre
  have hown : s.vm.findClass RX0 = some m.cls := findClass_of_methodNamed B.named
  have hlocks := B.notSynchronized
  subst hsz
  have hD := hD0.self (sz := s.heap.size)
  generalize hAe : va_A [(hh, .inr (0, [.ref lf, .ref rt, .ref rp])), (lf, .inl (cJ, 512, .inr (.inl (fun j => lI (F j)))))] s.heap.size = A at hD ⊢
  have hA : ∀ q : Nat, s.heap.size ≤ q → A q := fun q h => by rw [← hAe]; exact Or.inr h
  have hS : va_S A s.heap s.heap [] := va_S.rf
  have hP : va_P (dC, dI) vwCl [(hh, .inr (0, [.ref lf, .ref rt, .ref rp])), (lf, .inl (cJ, 512, .inr (.inl (fun j => lI (F j)))))] s.heap := hP
  have hl := lv_entry (([.ref hh, .int (nI n), .int (nI P)] : List Value)) (n := 4) (Nat.le_of_ble_eq_true rfl)
  rw [lg_entry_eq]
  generalize (lg_sl (([.ref hh, .int (nI n), .int (nI P)] : List Value)) ++ List.replicate (4 - (lg_sl (([.ref hh, .int (nI n), .int (nI P)] : List Value))).length) Slot.unset).toArray = ls at hl ⊢
  have hl : lv_has ls 4 [(0, .ref hh), (1, .int (nI n)), (2, .int (nI P))] := hl
  obtain ⟨H, hHe⟩ : ∃ H : Heap, H = s.heap := ⟨_, rfl⟩
  rw [← hHe] at hP
  have hS : va_S A s.heap H [] := by rw [hHe]; exact hS
  obtain ⟨locs, hlo⟩ : ∃ L : List Loc, L = [] := ⟨_, rfl⟩
  rw [← hlo] at hS ⊢
  rw [← hHe]
  refine lv_iconst (v := nI 0) hx hb dX0_takeAwayUpperHalf_0 (by decide) ?_
  rw [show F = tkU F n P 0 from (tkU_0 _ _ _).symm] at hP hD
  have hP : va_P (dC, dI) vwCl [(hh, .inr (0, [.ref lf, .ref rt, .ref rp])), (lf, .inl (cJ, 512, .inr (.inl (fun j => lI ((tkU F n P 0) j)))))] H := hP
  have hD : va_D A [(hh, .inr (0, [.ref lf, .ref rt, .ref rp])), (lf, .inl (cJ, 512, .inr (.inl (fun j => lI ((tkU F n P 0) j)))))] := hD
  refine lv_istore_n (lv' := [(3, .int (nI 0)), (0, .ref hh), (1, .int (nI n)), (2, .int (nI P))]) hx hb dX0_takeAwayUpperHalf_1 rfl hl (by decide) rfl (fun ls hl => ?_)
  have key_2 : ∀ (fuel : Nat) (t : Nat), (t ≤ n) → (n - t < fuel) → ∀ (H : Heap) (locs : List Loc) (ls : Array Slot), va_P (dC, dI) vwCl [(hh, .inr (0, [.ref lf, .ref rt, .ref rp])), (lf, .inl (cJ, 512, .inr (.inl (fun j => lI ((tkU F n P t) j)))))] H → va_D A [(hh, .inr (0, [.ref lf, .ref rt, .ref rp])), (lf, .inl (cJ, 512, .inr (.inl (fun j => lI ((tkU F n P t) j)))))] → va_S A s.heap H locs → lv_has ls 4 [(3, .int (nI t)), (2, .int (nI P)), (1, .int (nI n)), (0, .ref hh)] → W p l e (headSpec wsX0_takeAwayUpperHalf { frames := 1, cells := 0, slots := 0, locals := 24 }).room s m ([.ref hh, .int (nI n), .int (nI P)] : List Value).toArray below meth c H locs 0 0 (MQ below (q_X0_takeAwayUpperHalf dC dI cJ hh lf rt rp F n P  A) ([.ref hh, .int (nI n), .int (nI P)] : List Value).toArray s 0 0 A) (F0 m 2 ls []) := by
    intro fuel
    induction fuel with
    | zero => intro t; intros; omega
    | succ fuel ih_2 =>
      intro t ht hfu H locs ls hP hD hS hl
      refine lv_iload_n hx hb dX0_takeAwayUpperHalf_2 rfl (lv_at hl 0 rfl) ?_
      refine lv_iload_n hx hb dX0_takeAwayUpperHalf_3 rfl (lv_at hl 2 rfl) ?_
      refine lv_icmp_ge (tgt := 38) hx hb dX0_takeAwayUpperHalf_4 (by decide) (fun c_1 => ?_) (fun c_1 => ?_)
      · have c_1 : n ≤ t := (nI_leI (a := n) (b := t) (by omega) (by omega)).mp c_1
        rw [show tkU F n P t = tkU F n P n from by rw [show t = n by omega]] at hP hD
        have hP : va_P (dC, dI) vwCl [(hh, .inr (0, [.ref lf, .ref rt, .ref rp])), (lf, .inl (cJ, 512, .inr (.inl (fun j => lI ((tkU F n P n) j)))))] H := hP
        have hD : va_D A [(hh, .inr (0, [.ref lf, .ref rt, .ref rp])), (lf, .inl (cJ, 512, .inr (.inl (fun j => lI ((tkU F n P n) j)))))] := hD
        have hP9 : va_P (dC, dI) vwCl [(hh, .inr (0, [.ref lf, .ref rt, .ref rp])), (lf, .inl (cJ, 512, .inr (.inl (fun j => lI ((tkU F n P n) j)))))] H := hP.sub [0, 1] rfl
        have hD9 : va_D A [(hh, .inr (0, [.ref lf, .ref rt, .ref rp])), (lf, .inl (cJ, 512, .inr (.inl (fun j => lI ((tkU F n P n) j)))))] := hD.sub [0, 1] (by decide) rfl
        exact W.vret hx hb hr (fun t ht hW => ⟨⟨(), rfl, trivial, by rw [ht]; exact hP9, hD9⟩, hS.F ht⟩) hS.2.2 dX0_takeAwayUpperHalf_38
      · have c_1 : ¬ (n ≤ t) := fun zq9 => c_1 ((nI_leI (a := n) (b := t) (by omega) (by omega)).mpr zq9)
        have f1 := zF t (by omega)
        have f2 := zF (t + n) (by omega)
        refine lv_aload_n hx hb dX0_takeAwayUpperHalf_7 rfl (lv_at hl 3 rfl) ?_
        refine va_get (D := (dC, dI)) (ci := 0) (v := .ref lf) (C := RX0) (T := TX0) (N := 3) hx hb hts (by decide +kernel) hown hK hP 0 rfl rfl 0 (by decide) (hts (.fieldLink RX0 9 "ThreePrimes$Folder" "left" "[J") (by decide +kernel)) (fun _ h9 => h9) rfl dX0_takeAwayUpperHalf_8 ?_
        refine lv_iload_n hx hb dX0_takeAwayUpperHalf_11 rfl (lv_at hl 0 rfl) ?_
        refine lv_aload_n hx hb dX0_takeAwayUpperHalf_12 rfl (lv_at hl 3 rfl) ?_
        refine va_get (D := (dC, dI)) (ci := 0) (v := .ref lf) (C := RX0) (T := TX0) (N := 3) hx hb hts (by decide +kernel) hown hK hP 0 rfl rfl 0 (by decide) (hts (.fieldLink RX0 9 "ThreePrimes$Folder" "left" "[J") (by decide +kernel)) (fun _ h9 => h9) rfl dX0_takeAwayUpperHalf_13 ?_
        refine lv_iload_n hx hb dX0_takeAwayUpperHalf_16 rfl (lv_at hl 0 rfl) ?_
        refine va_lald hx hb hK hP 1 0 rfl rfl (vp_in_nI (by omega) (by omega)) dX0_takeAwayUpperHalf_17 ?_
        refine W.eq (g2 := F0 m _ ls [.long (lI ((tkU F n P t) t)), .int (nI t), .ref lf]) (by rw [nI_clamp (by omega)]) ?_
        refine W.eq (congrArg (fun z => F0 m _ ls (.long z :: _)) (show lI ((tkU F n P t) t) = lI (F t) from congrArg lI tkU_i)) ?_
        refine lv_aload_n hx hb dX0_takeAwayUpperHalf_18 rfl (lv_at hl 3 rfl) ?_
        refine va_get (D := (dC, dI)) (ci := 0) (v := .ref lf) (C := RX0) (T := TX0) (N := 3) hx hb hts (by decide +kernel) hown hK hP 0 rfl rfl 0 (by decide) (hts (.fieldLink RX0 9 "ThreePrimes$Folder" "left" "[J") (by decide +kernel)) (fun _ h9 => h9) rfl dX0_takeAwayUpperHalf_19 ?_
        refine lv_iload_n hx hb dX0_takeAwayUpperHalf_22 rfl (lv_at hl 0 rfl) ?_
        refine lv_iload_n hx hb dX0_takeAwayUpperHalf_23 rfl (lv_at hl 2 rfl) ?_
        refine lv_iadd hx hb dX0_takeAwayUpperHalf_24 ?_
        refine W.eq (congrArg (fun z => F0 m _ ls (.int z :: _)) (show (nI t) + (nI n) = nI (t + n) from nI_add t n)) ?_
        refine va_lald hx hb hK hP 1 0 rfl rfl (vp_in_nI (by omega) (by omega)) dX0_takeAwayUpperHalf_25 ?_
        refine W.eq (g2 := F0 m _ ls [.long (lI ((tkU F n P t) (t + n))), .long (lI (F t)), .int (nI t), .ref lf]) (by rw [nI_clamp (by omega)]) ?_
        refine W.eq (congrArg (fun z => F0 m _ ls (.long z :: _)) (show lI ((tkU F n P t) (t + n)) = lI (F (t + n)) from congrArg lI (tkU_n (by omega)))) ?_
        refine lv_lsub hx hb dX0_takeAwayUpperHalf_26 ?_
        refine W.eq (congrArg (fun z => F0 m _ ls (.long z :: _)) (show lI (F t) - lI (F (t + n)) = lI ((F t) - (F (t + n))) from lI_sub (F t) (F (t + n)))) ?_
        refine lv_iload_n hx hb dX0_takeAwayUpperHalf_27 rfl (lv_at hl 1 rfl) ?_
        have hPc := hP.sub (ws' := []) [] rfl
        have hDc := hD.sub (ws' := []) [] (by decide) rfl
        have hKc := hK.sub (tys' := []) [] rfl
        have hFc := va_free (wc := []) hD hS hA [] rfl
        refine va_calll (va_runS (As := [.long (lI ((F t) - (F (t + n)))), .int (nI P)]) (rest := [.int (nI t), .ref lf]) ⟨hx, hb, hml, hown, hts⟩ (c_X1_remainder l dC dI ((F t) - (F (t + n))) P H.size (by omega) (by omega) (by omega) (by omega)) (va_cwS 2 hts gX0_takeAwayUpperHalf_X1_remainder rfl rfl rfl (by decide +kernel) ⟨Nat.le_of_ble_eq_true rfl, Nat.le_of_ble_eq_true rfl⟩) ⟨fun a U g mk q => by obtain ⟨q0, q1, qP, qK, qD⟩ := q; exact ⟨q0, q1, qP, va_K.moved (u := U) (U := U.calling g mk a) (Vm.Alike.refl U.vm) qK, qD⟩, fun U hU hW => ⟨rfl, by rw [hU], by rw [hU]; exact hPc, va_K.moved hW.alike hKc, hDc.weaken (fun _ _ _ _ => trivial)⟩⟩ rfl rfl hl.1 rfl (lv_room (Nat.le_of_ble_eq_true rfl)) dX0_takeAwayUpperHalf_28 ⟨Nat.le_of_ble_eq_true rfl, Nat.le_of_ble_eq_true rfl⟩) hS (fun q _ h => hFc q h) hFc (fun r9 u9 t9 H1 locs ht hvm hw hB hz1 hk1 hS => ?_)
        obtain ⟨hP1, hD1⟩ := hB
        rw [ht] at hP1
        try dsimp only at hw
        obtain ⟨hP, hD⟩ := va_join (wr := [(hh, .inr (0, [.ref lf, .ref rt, .ref rp])), (lf, .inl (cJ, 512, .inr (.inl (fun j => lI ((tkU F n P t) j)))))]) (w1 := []) hP hD [] [0, 1] rfl rfl (by decide) (by decide) hk1 hFc hP1 hD1
        generalize H1 = H at hP hS ⊢
        have hP : va_P (dC, dI) vwCl [(hh, .inr (0, [.ref lf, .ref rt, .ref rp])), (lf, .inl (cJ, 512, .inr (.inl (fun j => lI ((tkU F n P t) j)))))] H := hP
        have hD : va_D A [(hh, .inr (0, [.ref lf, .ref rt, .ref rp])), (lf, .inl (cJ, 512, .inr (.inl (fun j => lI ((tkU F n P t) j)))))] := hD
        clear hPc hDc hKc hFc hP1 hD1 hk1 hz1 hvm ht
        subst hw
        refine va_last hx hb hK hP hD hS 1 0 rfl rfl (vp_in_nI (by omega) (by omega)) dX0_takeAwayUpperHalf_31 (fun H locs hP hD hS => ?_)
        rw [nI_clamp (show t < 2 ^ 31 by omega)] at hP hD
        rw [upI_l] at hP hD
        have hP : va_P (dC, dI) vwCl [(hh, .inr (0, [.ref lf, .ref rt, .ref rp])), (lf, .inl (cJ, 512, .inr (.inl (fun j => lI ((upI (tkU F n P t) t (((F t) - (F (t + n))) % ((P : Nat) : Int))) j)))))] H := hP
        have hD : va_D A [(hh, .inr (0, [.ref lf, .ref rt, .ref rp])), (lf, .inl (cJ, 512, .inr (.inl (fun j => lI ((upI (tkU F n P t) t (((F t) - (F (t + n))) % ((P : Nat) : Int))) j)))))] := hD
        rw [show upI (tkU F n P t) t (((F t) - (F (t + n))) % ((P : Nat) : Int)) = tkU F n P (t + 1) from tkU_s] at hP hD
        have hP : va_P (dC, dI) vwCl [(hh, .inr (0, [.ref lf, .ref rt, .ref rp])), (lf, .inl (cJ, 512, .inr (.inl (fun j => lI ((tkU F n P (t + 1)) j)))))] H := hP
        have hD : va_D A [(hh, .inr (0, [.ref lf, .ref rt, .ref rp])), (lf, .inl (cJ, 512, .inr (.inl (fun j => lI ((tkU F n P (t + 1)) j)))))] := hD
        refine lv_iinc (v := nI (t + 1)) (lv' := [(3, .int (nI (t + 1))), (2, .int (nI P)), (1, .int (nI n)), (0, .ref hh)]) hx hb dX0_takeAwayUpperHalf_32 hl (k := 0) rfl (nI_add t 1) (by decide) rfl (fun ls hl => ?_)
        refine lv_goto (tgt := 2) hx hb dX0_takeAwayUpperHalf_35 (by decide) ?_
        exact ih_2  (t + 1) (by omega) (by omega) _ _ _ (hP.sub [0, 1] rfl) (hD.sub [0, 1] (by decide) rfl) hS (lv_sub hl [0, 1, 2, 3] rfl)
  exact key_2 (n + 1) 0 (by omega) (by omega) _ _ _ (hP.sub [0, 1] rfl) (hD.sub [0, 1] (by decide) rfl) hS (lv_sub hl [0, 3, 2, 1] rfl)
