set_option maxHeartbeats 4000000 in
set_option maxRecDepth 100000 in
theorem law_t {p : Program} {l : Launch} {e : Env} {s : State} {m : MethodId} {below : List Frame} {meth : Method} {c : Code} {b L : Nat} {xs : Nat → Int32} {dC : Nat → ClassId} {dI : Nat → Nat → Nat} {cI cJ cO : ClassId} {tP : Nat} {sa : Nat → Nat} {A : Nat → Prop} {xo sm hh ps pb lf rt rp so r0 r1 r2 : Nat} {g : Nat → Option Nat} {po p0 p1 p2 : Nat} {g9 : Nat → Option Nat} {mo ma mb lo hi kp ot su oa : Nat} (HA : LA p l e s m below meth c b L xs dC dI cI cJ cO tP sa A) {i : Nat} (kk : LC p l e s m below meth c b L xs dC dI cI cJ cO tP sa A xo sm hh ps pb lf rt rp so r0 r1 r2 g po p0 p1 p2 g9 mo ma mb lo hi kp ot su oa (i + 4) (100 + (i + 4)) (20000 + 6 * (i + 4)) 23) : LC p l e s m below meth c b L xs dC dI cI cJ cO tP sa A xo sm hh ps pb lf rt rp so r0 r1 r2 g po p0 p1 p2 g9 mo ma mb lo hi kp ot su oa i (100 + i + 1) (20000 + 6 * i + 6) 1010 := by
  obtain ⟨hx, hb, hml, hown, hts, hX, hbl, hbA, hK, hM, hA, hl9, hL, hAi, hr, hlocks⟩ := HA
  intro k rs tv ra rb fA fB R0 R1 R2 S0 S1 S2 fp fa fb fk fo fs FL FR FP LW HW FO c9 s9 hR hc9 hs9 H locs ls hP hD hS hl
  refine lv_iinc (v := nI (i + 4)) (lv' := [(4, .int (nI (i + 4))), (3, .ref oa), (2, .ref mo), (1, .ref xo), (0, .ref b)]) hx hb dL_law_1010 hl (k := 0) rfl (nI_add i 4) (by decide) rfl (fun ls hl => ?_)
  refine lv_goto (tgt := 23) hx hb dL_law_1013 (by decide) ?_
  exact kk k rs tv ra rb fA fB R0 R1 R2 S0 S1 S2 fp fa fb fk fo fs FL FR FP LW HW FO c9 s9 (hR) (by omega) (by omega) _ _ _ (hP.sub [0, 1, 2, 3, 4, 5, 6, 7, 8, 9, 10, 11, 12, 13, 14, 15, 16, 17, 18, 19, 20, 21, 22, 23, 24, 25, 26] rfl) (hD.sub [0, 1, 2, 3, 4, 5, 6, 7, 8, 9, 10, 11, 12, 13, 14, 15, 16, 17, 18, 19, 20, 21, 22, 23, 24, 25, 26] (by decide) rfl) hS (lv_sub hl [0, 1, 2, 3, 4] rfl)
theorem hd_le {i L : Nat} (hi : i ≤ 2052) (hL : L ≤ 2048) (h : ¬ Int32.ofNat L - nI 4 < nI i) : i + 4 ≤ L := by
  rw [Int32.lt_iff_toInt_lt, nI_toInt (by omega), show Int32.ofNat L - nI 4 = iI ((L : Int) - 4) from iI_sub (L : Int) 4, iI_toInt (by omega) (by omega)] at h
  omega
theorem law_exit {p : Program} {l : Launch} {e : Env} {s : State} {m : MethodId} {below : List Frame} {meth : Method} {c : Code} {b L : Nat} {xs : Nat → Int32} {dC : Nat → ClassId} {dI : Nat → Nat → Nat} {cI cJ cO : ClassId} {tP : Nat} {sa : Nat → Nat} {A : Nat → Prop} {xo sm hh ps pb lf rt rp so r0 r1 r2 : Nat} {g : Nat → Option Nat} {po p0 p1 p2 : Nat} {g9 : Nat → Option Nat} {mo ma mb lo hi kp ot su oa : Nat} (HA : LA p l e s m below meth c b L xs dC dI cI cJ cO tP sa A) {i cb sb : Nat} (hcb : cb ≤ 601024) (hsb : sb ≤ 7293034) : LC p l e s m below meth c b L xs dC dI cI cJ cO tP sa A xo sm hh ps pb lf rt rp so r0 r1 r2 g po p0 p1 p2 g9 mo ma mb lo hi kp ot su oa i cb sb 1016 := by
  obtain ⟨hx, hb, hml, hown, hts, hX, hbl, hbA, hK, hM, hA, hl9, hL, hAi, hr, hlocks⟩ := HA
  intro k rs tv ra rb fA fB R0 R1 R2 S0 S1 S2 fp fa fb fk fo fs FL FR FP LW HW FO c9 s9 hR hc9 hs9 H locs ls hP hD hS hl
  refine lv_iconst (v := 1) hx hb dL_law_1016 (by decide) ?_
  refine W.widen (k := 601024) (n := 7293034) (by omega) (by omega) ?_
  refine va_forget (fun q hq => hAi _ (hS.2.2 q hq)) ?_
  exact lw_ret hx hb hr hlocks dL_law_1017
set_option maxHeartbeats 4000000 in
set_option maxRecDepth 100000 in
theorem law_loop {p : Program} {l : Launch} {e : Env} {s : State} {m : MethodId} {below : List Frame} {meth : Method} {c : Code} {b L : Nat} {xs : Nat → Int32} {dC : Nat → ClassId} {dI : Nat → Nat → Nat} {cI cJ cO : ClassId} {tP : Nat} {sa : Nat → Nat} {A : Nat → Prop} {xo sm hh ps pb lf rt rp so r0 r1 r2 : Nat} {g : Nat → Option Nat} {po p0 p1 p2 : Nat} {g9 : Nat → Option Nat} {mo ma mb lo hi kp ot su oa : Nat} (HA : LA p l e s m below meth c b L xs dC dI cI cJ cO tP sa A) (HG : LG g g9 r0 r1 r2 p0 p1 p2) : ∀ (fuel i : Nat), L + 4 < i + fuel → i ≤ L + 4 → LC p l e s m below meth c b L xs dC dI cI cJ cO tP sa A xo sm hh ps pb lf rt rp so r0 r1 r2 g po p0 p1 p2 g9 mo ma mb lo hi kp ot su oa i (100 + i) (20000 + 6 * i) 23 := by
  intro fuel
  induction fuel with
  | zero => intro i h1 h2; omega
  | succ fuel ih =>
  intro i h1 h2
  have HA0 := HA
  obtain ⟨hx, hb, hml, hown, hts, hX, hbl, hbA, hK, hM, hA, hl9, hL, hAi, hr, hlocks⟩ := HA0
  intro k rs tv ra rb fA fB R0 R1 R2 S0 S1 S2 fp fa fb fk fo fs FL FR FP LW HW FO c9 s9 hR hc9 hs9 H locs ls hP hD hS hl
  refine lv_iload hx hb dL_law_23 (lv_at hl 0 rfl) ?_
  refine lv_aload_n hx hb dL_law_25 rfl (lv_at hl 4 rfl) ?_
  refine va_slen hx hb hX hbl hbA hS dL_law_26 ?_
  refine lv_iconst (v := nI 4) hx hb dL_law_27 (by decide) ?_
  refine lv_isub hx hb dL_law_28 ?_
  refine lv_icmp_gt (tgt := 1016) hx hb dL_law_29 (by decide) (fun c_1 => ?_) (fun c_1 => ?_)
  · exact law_exit HA (i := i) (cb := 100 + i) (sb := 20000 + 6 * i) (by omega) (by omega) k rs tv ra rb fA fB R0 R1 R2 S0 S1 S2 fp fa fb fk fo fs FL FR FP LW HW FO c9 s9 hR hc9 hs9 H locs ls hP hD hS hl
  · have hi4 : i + 4 ≤ L := hd_le (by omega) hL c_1
    have kk0 := law_t HA (ih (i + 4) (by omega) (by omega))
    refine lv_aload_n hx hb dL_law_32 rfl (lv_at hl 4 rfl) ?_
    refine lv_iload hx hb dL_law_33 (lv_at hl 0 rfl) ?_
    refine va_sld hx hb hX hbl hbA hS (vp_in_nI (by omega) (by omega)) dL_law_35 ?_
    refine lv_bipush (v := nI 15) hx hb dL_law_36 (by decide) ?_
    refine lv_iand hx hb dL_law_38 ?_
    obtain ⟨j, hj, hje⟩ := pk_andE (xs (nI i).toNatClampNeg) (m := nI 15) 4 (by decide)
    rw [hje]
    clear hje
    rcases (show j = 0 ∨ j = 1 ∨ j = 2 ∨ j = 3 ∨ j = 4 ∨ j = 5 ∨ j = 6 ∨ j = 7 ∨ j = 8 ∨ j = 9 ∨ j = 10 ∨ j = 11 ∨ j = 12 ∨ j = 13 ∨ j = 14 ∨ j = 15 by omega) with rfl | rfl | rfl | rfl | rfl | rfl | rfl | rfl | rfl | rfl | rfl | rfl | rfl | rfl | rfl | rfl
    · refine lv_tableIn (tgt := 116) hx hb dL_law_39 (by decide) (by decide) (by rfl) (by decide) ?_
      exact law_c0 HA HG hi4 (by omega) (by omega) kk0 k rs tv ra rb fA fB R0 R1 R2 S0 S1 S2 fp fa fb fk fo fs FL FR FP LW HW FO c9 s9 hR hc9 hs9 H locs ls hP hD hS hl
    · refine lv_tableIn (tgt := 152) hx hb dL_law_39 (by decide) (by decide) (by rfl) (by decide) ?_
      exact law_c1 HA HG hi4 (by omega) (by omega) kk0 k rs tv ra rb fA fB R0 R1 R2 S0 S1 S2 fp fa fb fk fo fs FL FR FP LW HW FO c9 s9 hR hc9 hs9 H locs ls hP hD hS hl
    · refine lv_tableIn (tgt := 220) hx hb dL_law_39 (by decide) (by decide) (by rfl) (by decide) ?_
      exact law_c2 HA HG hi4 (by omega) (by omega) kk0 k rs tv ra rb fA fB R0 R1 R2 S0 S1 S2 fp fa fb fk fo fs FL FR FP LW HW FO c9 s9 hR hc9 hs9 H locs ls hP hD hS hl
    · refine lv_tableIn (tgt := 288) hx hb dL_law_39 (by decide) (by decide) (by rfl) (by decide) ?_
      exact law_c3 HA HG hi4 (by omega) (by omega) kk0 k rs tv ra rb fA fB R0 R1 R2 S0 S1 S2 fp fa fb fk fo fs FL FR FP LW HW FO c9 s9 hR hc9 hs9 H locs ls hP hD hS hl
    · refine lv_tableIn (tgt := 344) hx hb dL_law_39 (by decide) (by decide) (by rfl) (by decide) ?_
      exact law_c4 HA HG hi4 (by omega) (by omega) kk0 k rs tv ra rb fA fB R0 R1 R2 S0 S1 S2 fp fa fb fk fo fs FL FR FP LW HW FO c9 s9 hR hc9 hs9 H locs ls hP hD hS hl
    · refine lv_tableIn (tgt := 400) hx hb dL_law_39 (by decide) (by decide) (by rfl) (by decide) ?_
      exact law_c5 HA HG hi4 (by omega) (by omega) kk0 k rs tv ra rb fA fB R0 R1 R2 S0 S1 S2 fp fa fb fk fo fs FL FR FP LW HW FO c9 s9 hR hc9 hs9 H locs ls hP hD hS hl
    · refine lv_tableIn (tgt := 411) hx hb dL_law_39 (by decide) (by decide) (by rfl) (by decide) ?_
      exact law_c6 HA HG hi4 (by omega) (by omega) kk0 k rs tv ra rb fA fB R0 R1 R2 S0 S1 S2 fp fa fb fk fo fs FL FR FP LW HW FO c9 s9 hR hc9 hs9 H locs ls hP hD hS hl
    · refine lv_tableIn (tgt := 467) hx hb dL_law_39 (by decide) (by decide) (by rfl) (by decide) ?_
      exact law_c7 HA HG hi4 (by omega) (by omega) kk0 k rs tv ra rb fA fB R0 R1 R2 S0 S1 S2 fp fa fb fk fo fs FL FR FP LW HW FO c9 s9 hR hc9 hs9 H locs ls hP hD hS hl
    · refine lv_tableIn (tgt := 523) hx hb dL_law_39 (by decide) (by decide) (by rfl) (by decide) ?_
      exact law_c8 HA HG hi4 (by omega) (by omega) kk0 k rs tv ra rb fA fB R0 R1 R2 S0 S1 S2 fp fa fb fk fo fs FL FR FP LW HW FO c9 s9 hR hc9 hs9 H locs ls hP hD hS hl
    · refine lv_tableIn (tgt := 578) hx hb dL_law_39 (by decide) (by decide) (by rfl) (by decide) ?_
      exact law_c9 HA HG hi4 (by omega) (by omega) kk0 k rs tv ra rb fA fB R0 R1 R2 S0 S1 S2 fp fa fb fk fo fs FL FR FP LW HW FO c9 s9 hR hc9 hs9 H locs ls hP hD hS hl
    · refine lv_tableIn (tgt := 634) hx hb dL_law_39 (by decide) (by decide) (by rfl) (by decide) ?_
      exact law_c10 HA HG hi4 (by omega) (by omega) kk0 k rs tv ra rb fA fB R0 R1 R2 S0 S1 S2 fp fa fb fk fo fs FL FR FP LW HW FO c9 s9 hR hc9 hs9 H locs ls hP hD hS hl
    · refine lv_tableIn (tgt := 702) hx hb dL_law_39 (by decide) (by decide) (by rfl) (by decide) ?_
      exact law_c11 HA HG hi4 (by omega) (by omega) kk0 k rs tv ra rb fA fB R0 R1 R2 S0 S1 S2 fp fa fb fk fo fs FL FR FP LW HW FO c9 s9 hR hc9 hs9 H locs ls hP hD hS hl
    · refine lv_tableIn (tgt := 770) hx hb dL_law_39 (by decide) (by decide) (by rfl) (by decide) ?_
      exact law_c12 HA HG hi4 (by omega) (by omega) kk0 k rs tv ra rb fA fB R0 R1 R2 S0 S1 S2 fp fa fb fk fo fs FL FR FP LW HW FO c9 s9 hR hc9 hs9 H locs ls hP hD hS hl
    · refine lv_tableIn (tgt := 838) hx hb dL_law_39 (by decide) (by decide) (by rfl) (by decide) ?_
      exact law_c13 HA HG hi4 (by omega) (by omega) kk0 k rs tv ra rb fA fB R0 R1 R2 S0 S1 S2 fp fa fb fk fo fs FL FR FP LW HW FO c9 s9 hR hc9 hs9 H locs ls hP hD hS hl
    · refine lv_tableIn (tgt := 862) hx hb dL_law_39 (by decide) (by decide) (by rfl) (by decide) ?_
      exact law_c14 HA HG hi4 (by omega) (by omega) kk0 k rs tv ra rb fA fB R0 R1 R2 S0 S1 S2 fp fa fb fk fo fs FL FR FP LW HW FO c9 s9 hR hc9 hs9 H locs ls hP hD hS hl
    · refine lv_tableIn (tgt := 942) hx hb dL_law_39 (by decide) (by decide) (by rfl) (by decide) ?_
      exact law_c15 HA HG hi4 (by omega) (by omega) kk0 k rs tv ra rb fA fB R0 R1 R2 S0 S1 S2 fp fa fb fk fo fs FL FR FP LW HW FO c9 s9 hR hc9 hs9 H locs ls hP hD hS hl
