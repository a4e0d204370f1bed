set_option maxHeartbeats 4000000 in
set_option maxRecDepth 100000 in
theorem whole_start {p : Program} {e : Env} {s : State} {m : MethodId} {below : List Frame} {meth : Method} {c : Code} (l : Launch) (hl9 : l.stackTraces = false) {b L : Nat} {xs : Nat → Int32} (hL : L ≤ 2048) (C0 : lw_At p s m meth c b L xs) : W p l e room_1 s m #[Value.ref b] below meth c s.heap [] 0 0 (lw_Z below #[Value.ref b] s) (entryFrame m ([Value.ref b] : List Value).toArray 8) := by
  obtain ⟨hx, hb, hr, hml, hown0, htsT, hX, hbl, hlocks, hgv⟩ := C0
  have hb : c.code = cL_law := hb
  have hown : s.vm.findClass RL = some m.cls := hown0
  have hts : ∀ w ∈ wsL_law, w.before #[Value.ref b] s = true := fun w h => htsT w (wsL_law_in w h)
  have hover : (Cond.arrayOver (.array .int)).before #[Value.ref b] s = true := htsT _ (by decide +kernel)
  obtain ⟨A, hAe⟩ : ∃ A : Nat → Prop, A = fun q => s.heap.size ≤ q := ⟨_, rfl⟩
  have hA : ∀ q : Nat, s.heap.size ≤ q → A q := fun q h => by rw [hAe]; exact h
  have hAi : ∀ q : Nat, A q → s.heap.size ≤ q := fun q h => by rw [hAe] at h; exact h
  have hAn : ∀ a : Nat, a < s.heap.size → ¬ A a := fun a h q => absurd (hAi a q) (by omega)
  have hbA : ¬ A b := hAn b hbl
  clear hAe
  obtain ⟨dC, dI, cI, cJ, cO, hK⟩ := know_K hts hover
  obtain ⟨tP, sa, hM⟩ := know_amb htsT (flat_of_before _ hgv) hover hAn
  have HA : LA p l e s m below meth c b L xs dC dI cI cJ cO tP sa A := ⟨hx, hb, hml, hown, hts, hX, hbl, hbA, hK, hM, hA, hl9, hL, hAi, hr, hlocks⟩
  have hP : va_P (dC, dI) vwCl [] s.heap := fun k q h => by cases h
  have hD : va_D A [] := ⟨fun i j p q h => (by cases h), fun k q h => (by cases h)⟩
  have hS : va_S A s.heap s.heap [] := va_S.rf
  have hl := lv_entry ([Value.ref b] : List Value) (n := 8) (Nat.le_of_ble_eq_true rfl)
  rw [lg_entry_eq]
  generalize (lg_sl ([Value.ref b] : List Value) ++ List.replicate (8 - (lg_sl ([Value.ref b] : List Value)).length) Slot.unset).toArray = ls at hl ⊢
  have hl : lv_has ls 8 [(0, .ref b)] := hl
  obtain ⟨H, hHe⟩ : ∃ H : Heap, H = s.heap := ⟨_, rfl⟩
  rw [← hHe] at hP
  have hS : va_S A s.heap H [] := by rw [hHe]; exact hS
  obtain ⟨locs, hlo⟩ : ∃ L : List Loc, L = [] := ⟨_, rfl⟩
  rw [← hlo] at hS ⊢
  rw [← hHe]
  refine va_new (ci := 2) (fs := [.int 0, .null, .null, .int 0, .null, .null, .null, .null]) (C := RX3) (T := TX3) (N := 8) hx hb hts (inlX3) tyX3 tyX3_ok hown (hts (.classLink RL 8 RX3) (by decide +kernel)) (hts (.instantiable RX3 8) (by decide +kernel)) (hts (.initialized RX3) (by decide +kernel)) hK hP hD hS hA rfl (by decide +kernel) (Nat.le_of_ble_eq_true rfl) (Nat.le_of_ble_eq_true rfl) dL_law_0 (fun qo_1 H hP hD hS => ?_)
  have hP : va_P (dC, dI) vwCl [(qo_1, .inr (2, [.int 0, .null, .null, .int 0, .null, .null, .null, .null]))] H := hP
  have hD : va_D A [(qo_1, .inr (2, [.int 0, .null, .null, .int 0, .null, .null, .null, .null]))] := hD
  refine W.widen (k := 1) (n := 8) (by omega) (by omega) ?_
  refine lv_dup hx hb dL_law_3 rfl ?_
  have hPc := hP.sub (ws' := [(qo_1, .inr (2, [.int 0, .null, .null, .int 0, .null, .null, .null, .null]))]) [0] rfl
  have hDc := hD.sub (ws' := [(qo_1, .inr (2, [.int 0, .null, .null, .int 0, .null, .null, .null, .null]))]) [0] (by decide) rfl
  have hKc := hK.sub (tys' := [(cI, .int), (cJ, .long), (cO, .array .int)]) [0, 1, 2] rfl
  have hFc := va_free (wc := [(qo_1, .inr (2, [.int 0, .null, .null, .int 0, .null, .null, .null, .null]))]) hD hS hA [0] rfl
  refine va_callv (va_runI (As := []) (rest := [.ref qo_1]) ⟨hx, hb, hml, hown, hts⟩ (c_X3_init l dC dI cI cJ cO qo_1 H.size tP sa ) (cwI 0 hts gL_law_X3_init rfl rfl rfl (hts (.initialized RX3) (by decide +kernel)) (hts (.methodLink RL 65 yX3_init) (by decide +kernel)) (hts (.instanceMethod yX3_init) (by decide +kernel)) rfl (by decide +kernel) ⟨Nat.le_of_ble_eq_true rfl, Nat.le_of_ble_eq_true rfl⟩) ⟨fun a U g mk q => by obtain ⟨q0, q1, qP, qK, qD, qM⟩ := q; exact ⟨q0, q1, qP, va_K.moved (u := U) (U := U.calling g mk a) (Vm.Alike.refl U.vm) qK, qD, amb_same (U := U) (U' := U.calling g mk a) rfl rfl qM⟩, fun U hU hW => ⟨rfl, by rw [hU], by rw [hU]; exact hPc, va_K.moved hW.alike hKc, hDc.weaken (fun _ _ _ _ => trivial), amb_pass hM hS hFc hW hU⟩⟩ rfl rfl hl.1 rfl (lv_room (Nat.le_of_ble_eq_true rfl)) dL_law_4 ⟨Nat.le_of_ble_eq_true rfl, Nat.le_of_ble_eq_true rfl⟩) hS (fun q _ h => hFc q h) hFc (fun u9 t9 H1 locs ht hvm hw hB hz1 hk1 hS => ?_)
  obtain ⟨ra_2, rb_3, ⟨sm_4, so_5, rr_6⟩, ⟨hh_7, lf_8, rt_9, rp_10⟩, ⟨ps_11, po_12, rq_13⟩, pb_14⟩ := u9
  obtain ⟨hP1, hD1⟩ := hB
  try dsimp only at hP1 hD1
  rw [ht] at hP1
  try dsimp only at hw
  obtain ⟨hP, hD⟩ := va_join (wr := []) (w1 := [(qo_1, .inr (2, [.int (nI 1), .ref ra_2, .ref rb_3, .int (nI 0), .ref sm_4, .ref hh_7, .ref ps_11, .ref pb_14])), (ra_2, .inl (cI, 256, .inl (fun _ => 0))), (rb_3, .inl (cI, 256, .inl (fun _ => 0))), (sm_4, .inr (1, [.ref so_5])), (so_5, .inl (cO, 3, .inr (.inr (.inr (.inr (fun i => if i < 3 then some (rr_6 i) else none)))))), ((rr_6 0), .inl (cI, 511, .inl (fun _ => 0))), ((rr_6 1), .inl (cI, 511, .inl (fun _ => 0))), ((rr_6 2), .inl (cI, 511, .inl (fun _ => 0))), (hh_7, .inr (0, [.ref lf_8, .ref rt_9, .ref rp_10])), (lf_8, .inl (cJ, 512, .inr (.inl (fun t9 => lI ((fun _ => (0 : Int)) t9))))), (rt_9, .inl (cJ, 512, .inr (.inl (fun t9 => lI ((fun _ => (0 : Int)) t9))))), (rp_10, .inl (cJ, 256, .inr (.inl (fun t9 => lI ((fun _ => (0 : Int)) t9))))), (ps_11, .inr (1, [.ref po_12])), (po_12, .inl (cO, 3, .inr (.inr (.inr (.inr (fun i => if i < 3 then some (rq_13 i) else none)))))), ((rq_13 0), .inl (cI, 256, .inl (fun _ => 0))), ((rq_13 1), .inl (cI, 256, .inl (fun _ => 0))), ((rq_13 2), .inl (cI, 256, .inl (fun _ => 0))), (pb_14, .inl (cI, 256, .inl (fun _ => 0)))]) hP hD [0] [] rfl rfl (by decide) (by decide) hk1 hFc hP1 hD1
  generalize H1 = H at hP hS ⊢
  have hP : va_P (dC, dI) vwCl [(qo_1, .inr (2, [.int (nI 1), .ref ra_2, .ref rb_3, .int (nI 0), .ref sm_4, .ref hh_7, .ref ps_11, .ref pb_14])), (ra_2, .inl (cI, 256, .inl (fun _ => 0))), (rb_3, .inl (cI, 256, .inl (fun _ => 0))), (sm_4, .inr (1, [.ref so_5])), (so_5, .inl (cO, 3, .inr (.inr (.inr (.inr (fun i => if i < 3 then some (rr_6 i) else none)))))), ((rr_6 0), .inl (cI, 511, .inl (fun _ => 0))), ((rr_6 1), .inl (cI, 511, .inl (fun _ => 0))), ((rr_6 2), .inl (cI, 511, .inl (fun _ => 0))), (hh_7, .inr (0, [.ref lf_8, .ref rt_9, .ref rp_10])), (lf_8, .inl (cJ, 512, .inr (.inl (fun t9 => lI ((fun _ => (0 : Int)) t9))))), (rt_9, .inl (cJ, 512, .inr (.inl (fun t9 => lI ((fun _ => (0 : Int)) t9))))), (rp_10, .inl (cJ, 256, .inr (.inl (fun t9 => lI ((fun _ => (0 : Int)) t9))))), (ps_11, .inr (1, [.ref po_12])), (po_12, .inl (cO, 3, .inr (.inr (.inr (.inr (fun i => if i < 3 then some (rq_13 i) else none)))))), ((rq_13 0), .inl (cI, 256, .inl (fun _ => 0))), ((rq_13 1), .inl (cI, 256, .inl (fun _ => 0))), ((rq_13 2), .inl (cI, 256, .inl (fun _ => 0))), (pb_14, .inl (cI, 256, .inl (fun _ => 0)))] H := hP
  have hD : va_D A [(qo_1, .inr (2, [.int (nI 1), .ref ra_2, .ref rb_3, .int (nI 0), .ref sm_4, .ref hh_7, .ref ps_11, .ref pb_14])), (ra_2, .inl (cI, 256, .inl (fun _ => 0))), (rb_3, .inl (cI, 256, .inl (fun _ => 0))), (sm_4, .inr (1, [.ref so_5])), (so_5, .inl (cO, 3, .inr (.inr (.inr (.inr (fun i => if i < 3 then some (rr_6 i) else none)))))), ((rr_6 0), .inl (cI, 511, .inl (fun _ => 0))), ((rr_6 1), .inl (cI, 511, .inl (fun _ => 0))), ((rr_6 2), .inl (cI, 511, .inl (fun _ => 0))), (hh_7, .inr (0, [.ref lf_8, .ref rt_9, .ref rp_10])), (lf_8, .inl (cJ, 512, .inr (.inl (fun t9 => lI ((fun _ => (0 : Int)) t9))))), (rt_9, .inl (cJ, 512, .inr (.inl (fun t9 => lI ((fun _ => (0 : Int)) t9))))), (rp_10, .inl (cJ, 256, .inr (.inl (fun t9 => lI ((fun _ => (0 : Int)) t9))))), (ps_11, .inr (1, [.ref po_12])), (po_12, .inl (cO, 3, .inr (.inr (.inr (.inr (fun i => if i < 3 then some (rq_13 i) else none)))))), ((rq_13 0), .inl (cI, 256, .inl (fun _ => 0))), ((rq_13 1), .inl (cI, 256, .inl (fun _ => 0))), ((rq_13 2), .inl (cI, 256, .inl (fun _ => 0))), (pb_14, .inl (cI, 256, .inl (fun _ => 0)))] := hD
  clear hPc hDc hKc hFc hP1 hD1 hk1 hz1 hvm ht
  refine W.widen (k := 18) (n := 4368) (by omega) (by omega) ?_
  clear hw
  refine lv_astore_n (lv' := [(1, .ref qo_1), (0, .ref b)]) hx hb dL_law_7 rfl hl (by decide) rfl (fun ls hl => ?_)
  refine va_new (ci := 3) (fs := [.int 0, .int 0, .null, .null, .int 0, .null, .null, .null, .null, .null]) (C := RX4) (T := TX4) (N := 10) hx hb hts (inlX4) tyX4 tyX4_ok hown (hts (.classLink RL 66 RX4) (by decide +kernel)) (hts (.instantiable RX4 10) (by decide +kernel)) (hts (.initialized RX4) (by decide +kernel)) hK hP hD hS hA rfl (by decide +kernel) (Nat.le_of_ble_eq_true rfl) (Nat.le_of_ble_eq_true rfl) dL_law_8 (fun qo_15 H hP hD hS => ?_)
  have hP : va_P (dC, dI) vwCl [(qo_1, .inr (2, [.int (nI 1), .ref ra_2, .ref rb_3, .int (nI 0), .ref sm_4, .ref hh_7, .ref ps_11, .ref pb_14])), (ra_2, .inl (cI, 256, .inl (fun _ => 0))), (rb_3, .inl (cI, 256, .inl (fun _ => 0))), (sm_4, .inr (1, [.ref so_5])), (so_5, .inl (cO, 3, .inr (.inr (.inr (.inr (fun i => if i < 3 then some (rr_6 i) else none)))))), ((rr_6 0), .inl (cI, 511, .inl (fun _ => 0))), ((rr_6 1), .inl (cI, 511, .inl (fun _ => 0))), ((rr_6 2), .inl (cI, 511, .inl (fun _ => 0))), (hh_7, .inr (0, [.ref lf_8, .ref rt_9, .ref rp_10])), (lf_8, .inl (cJ, 512, .inr (.inl (fun t9 => lI ((fun _ => (0 : Int)) t9))))), (rt_9, .inl (cJ, 512, .inr (.inl (fun t9 => lI ((fun _ => (0 : Int)) t9))))), (rp_10, .inl (cJ, 256, .inr (.inl (fun t9 => lI ((fun _ => (0 : Int)) t9))))), (ps_11, .inr (1, [.ref po_12])), (po_12, .inl (cO, 3, .inr (.inr (.inr (.inr (fun i => if i < 3 then some (rq_13 i) else none)))))), ((rq_13 0), .inl (cI, 256, .inl (fun _ => 0))), ((rq_13 1), .inl (cI, 256, .inl (fun _ => 0))), ((rq_13 2), .inl (cI, 256, .inl (fun _ => 0))), (pb_14, .inl (cI, 256, .inl (fun _ => 0))), (qo_15, .inr (3, [.int 0, .int 0, .null, .null, .int 0, .null, .null, .null, .null, .null]))] H := hP
  have hD : va_D A [(qo_1, .inr (2, [.int (nI 1), .ref ra_2, .ref rb_3, .int (nI 0), .ref sm_4, .ref hh_7, .ref ps_11, .ref pb_14])), (ra_2, .inl (cI, 256, .inl (fun _ => 0))), (rb_3, .inl (cI, 256, .inl (fun _ => 0))), (sm_4, .inr (1, [.ref so_5])), (so_5, .inl (cO, 3, .inr (.inr (.inr (.inr (fun i => if i < 3 then some (rr_6 i) else none)))))), ((rr_6 0), .inl (cI, 511, .inl (fun _ => 0))), ((rr_6 1), .inl (cI, 511, .inl (fun _ => 0))), ((rr_6 2), .inl (cI, 511, .inl (fun _ => 0))), (hh_7, .inr (0, [.ref lf_8, .ref rt_9, .ref rp_10])), (lf_8, .inl (cJ, 512, .inr (.inl (fun t9 => lI ((fun _ => (0 : Int)) t9))))), (rt_9, .inl (cJ, 512, .inr (.inl (fun t9 => lI ((fun _ => (0 : Int)) t9))))), (rp_10, .inl (cJ, 256, .inr (.inl (fun t9 => lI ((fun _ => (0 : Int)) t9))))), (ps_11, .inr (1, [.ref po_12])), (po_12, .inl (cO, 3, .inr (.inr (.inr (.inr (fun i => if i < 3 then some (rq_13 i) else none)))))), ((rq_13 0), .inl (cI, 256, .inl (fun _ => 0))), ((rq_13 1), .inl (cI, 256, .inl (fun _ => 0))), ((rq_13 2), .inl (cI, 256, .inl (fun _ => 0))), (pb_14, .inl (cI, 256, .inl (fun _ => 0))), (qo_15, .inr (3, [.int 0, .int 0, .null, .null, .int 0, .null, .null, .null, .null, .null]))] := hD
  refine W.widen (k := 19) (n := 4378) (by omega) (by omega) ?_
  refine lv_dup hx hb dL_law_11 rfl ?_
  have hPc := hP.sub (ws' := [(qo_15, .inr (3, [.int 0, .int 0, .null, .null, .int 0, .null, .null, .null, .null, .null]))]) [18] rfl
  have hDc := hD.sub (ws' := [(qo_15, .inr (3, [.int 0, .int 0, .null, .null, .int 0, .null, .null, .null, .null, .null]))]) [18] (by decide) rfl
  have hKc := hK.sub (tys' := [(cI, .int), (cJ, .long)]) [0, 1] rfl
  have hFc := va_free (wc := [(qo_15, .inr (3, [.int 0, .int 0, .null, .null, .int 0, .null, .null, .null, .null, .null]))]) hD hS hA [18] rfl
  refine va_callv (va_runI (As := []) (rest := [.ref qo_15]) ⟨hx, hb, hml, hown, hts⟩ (c_X4_init l dC dI cI cJ qo_15 H.size ) (cwI 0 hts gL_law_X4_init rfl rfl rfl (hts (.initialized RX4) (by decide +kernel)) (hts (.methodLink RL 68 yX4_init) (by decide +kernel)) (hts (.instanceMethod yX4_init) (by decide +kernel)) rfl (by decide +kernel) ⟨Nat.le_of_ble_eq_true rfl, Nat.le_of_ble_eq_true rfl⟩) ⟨fun a U g mk q => by obtain ⟨q0, q1, qP, qK, qD⟩ := q; exact ⟨q0, q1, qP, va_K.moved (u := U) (U := U.calling g mk a) (Vm.Alike.refl U.vm) qK, qD⟩, fun U hU hW => ⟨rfl, by rw [hU], by rw [hU]; exact hPc, va_K.moved hW.alike hKc, hDc.weaken (fun _ _ _ _ => trivial)⟩⟩ rfl rfl hl.1 rfl (lv_room (Nat.le_of_ble_eq_true rfl)) dL_law_12 ⟨Nat.le_of_ble_eq_true rfl, Nat.le_of_ble_eq_true rfl⟩) hS (fun q _ h => hFc q h) hFc (fun u9 t9 H1 locs ht hvm hw hB hz1 hk1 hS => ?_)
  obtain ⟨ma_16, mb_17, lo_18, hi_19, kp_20, ot_21, su_22⟩ := u9
  obtain ⟨hP1, hD1⟩ := hB
  try dsimp only at hP1 hD1
  rw [ht] at hP1
  try dsimp only at hw
  obtain ⟨hP, hD⟩ := va_join (wr := [(qo_1, .inr (2, [.int (nI 1), .ref ra_2, .ref rb_3, .int (nI 0), .ref sm_4, .ref hh_7, .ref ps_11, .ref pb_14])), (ra_2, .inl (cI, 256, .inl (fun _ => 0))), (rb_3, .inl (cI, 256, .inl (fun _ => 0))), (sm_4, .inr (1, [.ref so_5])), (so_5, .inl (cO, 3, .inr (.inr (.inr (.inr (fun i => if i < 3 then some (rr_6 i) else none)))))), ((rr_6 0), .inl (cI, 511, .inl (fun _ => 0))), ((rr_6 1), .inl (cI, 511, .inl (fun _ => 0))), ((rr_6 2), .inl (cI, 511, .inl (fun _ => 0))), (hh_7, .inr (0, [.ref lf_8, .ref rt_9, .ref rp_10])), (lf_8, .inl (cJ, 512, .inr (.inl (fun t9 => lI ((fun _ => (0 : Int)) t9))))), (rt_9, .inl (cJ, 512, .inr (.inl (fun t9 => lI ((fun _ => (0 : Int)) t9))))), (rp_10, .inl (cJ, 256, .inr (.inl (fun t9 => lI ((fun _ => (0 : Int)) t9))))), (ps_11, .inr (1, [.ref po_12])), (po_12, .inl (cO, 3, .inr (.inr (.inr (.inr (fun i => if i < 3 then some (rq_13 i) else none)))))), ((rq_13 0), .inl (cI, 256, .inl (fun _ => 0))), ((rq_13 1), .inl (cI, 256, .inl (fun _ => 0))), ((rq_13 2), .inl (cI, 256, .inl (fun _ => 0))), (pb_14, .inl (cI, 256, .inl (fun _ => 0)))]) (w1 := [(qo_15, .inr (3, [.int 0, .int (nI (2 ^ 1)), .ref ma_16, .ref mb_17, .int (nI 0), .ref lo_18, .ref hi_19, .ref kp_20, .ref ot_21, .ref su_22])), (ma_16, .inl (cI, 256, .inl (fun _ => 0))), (mb_17, .inl (cI, 256, .inl (fun _ => 0))), (lo_18, .inl (cJ, 511, .inr (.inl (fun t9 => lI ((fun _ => (0 : Int)) t9))))), (hi_19, .inl (cJ, 511, .inr (.inl (fun t9 => lI ((fun _ => (0 : Int)) t9))))), (kp_20, .inl (cI, 256, .inl (fun _ => 0))), (ot_21, .inl (cI, 256, .inl (fun _ => 0))), (su_22, .inl (cI, 256, .inl (fun _ => 0)))]) hP hD [18] [0, 1, 2, 3, 4, 5, 6, 7, 8, 9, 10, 11, 12, 13, 14, 15, 16, 17] rfl rfl (by decide) (by decide) hk1 hFc hP1 hD1
  generalize H1 = H at hP hS ⊢
  have hP : va_P (dC, dI) vwCl [(qo_1, .inr (2, [.int (nI 1), .ref ra_2, .ref rb_3, .int (nI 0), .ref sm_4, .ref hh_7, .ref ps_11, .ref pb_14])), (ra_2, .inl (cI, 256, .inl (fun _ => 0))), (rb_3, .inl (cI, 256, .inl (fun _ => 0))), (sm_4, .inr (1, [.ref so_5])), (so_5, .inl (cO, 3, .inr (.inr (.inr (.inr (fun i => if i < 3 then some (rr_6 i) else none)))))), ((rr_6 0), .inl (cI, 511, .inl (fun _ => 0))), ((rr_6 1), .inl (cI, 511, .inl (fun _ => 0))), ((rr_6 2), .inl (cI, 511, .inl (fun _ => 0))), (hh_7, .inr (0, [.ref lf_8, .ref rt_9, .ref rp_10])), (lf_8, .inl (cJ, 512, .inr (.inl (fun t9 => lI ((fun _ => (0 : Int)) t9))))), (rt_9, .inl (cJ, 512, .inr (.inl (fun t9 => lI ((fun _ => (0 : Int)) t9))))), (rp_10, .inl (cJ, 256, .inr (.inl (fun t9 => lI ((fun _ => (0 : Int)) t9))))), (ps_11, .inr (1, [.ref po_12])), (po_12, .inl (cO, 3, .inr (.inr (.inr (.inr (fun i => if i < 3 then some (rq_13 i) else none)))))), ((rq_13 0), .inl (cI, 256, .inl (fun _ => 0))), ((rq_13 1), .inl (cI, 256, .inl (fun _ => 0))), ((rq_13 2), .inl (cI, 256, .inl (fun _ => 0))), (pb_14, .inl (cI, 256, .inl (fun _ => 0))), (qo_15, .inr (3, [.int 0, .int (nI (2 ^ 1)), .ref ma_16, .ref mb_17, .int (nI 0), .ref lo_18, .ref hi_19, .ref kp_20, .ref ot_21, .ref su_22])), (ma_16, .inl (cI, 256, .inl (fun _ => 0))), (mb_17, .inl (cI, 256, .inl (fun _ => 0))), (lo_18, .inl (cJ, 511, .inr (.inl (fun t9 => lI ((fun _ => (0 : Int)) t9))))), (hi_19, .inl (cJ, 511, .inr (.inl (fun t9 => lI ((fun _ => (0 : Int)) t9))))), (kp_20, .inl (cI, 256, .inl (fun _ => 0))), (ot_21, .inl (cI, 256, .inl (fun _ => 0))), (su_22, .inl (cI, 256, .inl (fun _ => 0)))] H := hP
  have hD : va_D A [(qo_1, .inr (2, [.int (nI 1), .ref ra_2, .ref rb_3, .int (nI 0), .ref sm_4, .ref hh_7, .ref ps_11, .ref pb_14])), (ra_2, .inl (cI, 256, .inl (fun _ => 0))), (rb_3, .inl (cI, 256, .inl (fun _ => 0))), (sm_4, .inr (1, [.ref so_5])), (so_5, .inl (cO, 3, .inr (.inr (.inr (.inr (fun i => if i < 3 then some (rr_6 i) else none)))))), ((rr_6 0), .inl (cI, 511, .inl (fun _ => 0))), ((rr_6 1), .inl (cI, 511, .inl (fun _ => 0))), ((rr_6 2), .inl (cI, 511, .inl (fun _ => 0))), (hh_7, .inr (0, [.ref lf_8, .ref rt_9, .ref rp_10])), (lf_8, .inl (cJ, 512, .inr (.inl (fun t9 => lI ((fun _ => (0 : Int)) t9))))), (rt_9, .inl (cJ, 512, .inr (.inl (fun t9 => lI ((fun _ => (0 : Int)) t9))))), (rp_10, .inl (cJ, 256, .inr (.inl (fun t9 => lI ((fun _ => (0 : Int)) t9))))), (ps_11, .inr (1, [.ref po_12])), (po_12, .inl (cO, 3, .inr (.inr (.inr (.inr (fun i => if i < 3 then some (rq_13 i) else none)))))), ((rq_13 0), .inl (cI, 256, .inl (fun _ => 0))), ((rq_13 1), .inl (cI, 256, .inl (fun _ => 0))), ((rq_13 2), .inl (cI, 256, .inl (fun _ => 0))), (pb_14, .inl (cI, 256, .inl (fun _ => 0))), (qo_15, .inr (3, [.int 0, .int (nI (2 ^ 1)), .ref ma_16, .ref mb_17, .int (nI 0), .ref lo_18, .ref hi_19, .ref kp_20, .ref ot_21, .ref su_22])), (ma_16, .inl (cI, 256, .inl (fun _ => 0))), (mb_17, .inl (cI, 256, .inl (fun _ => 0))), (lo_18, .inl (cJ, 511, .inr (.inl (fun t9 => lI ((fun _ => (0 : Int)) t9))))), (hi_19, .inl (cJ, 511, .inr (.inl (fun t9 => lI ((fun _ => (0 : Int)) t9))))), (kp_20, .inl (cI, 256, .inl (fun _ => 0))), (ot_21, .inl (cI, 256, .inl (fun _ => 0))), (su_22, .inl (cI, 256, .inl (fun _ => 0)))] := hD
  clear hPc hDc hKc hFc hP1 hD1 hk1 hz1 hvm ht
  refine W.widen (k := 26) (n := 6680) (by omega) (by omega) ?_
  clear hw
  refine lv_astore_n (lv' := [(2, .ref qo_15), (1, .ref qo_1), (0, .ref b)]) hx hb dL_law_15 rfl hl (by decide) rfl (fun ls hl => ?_)
  refine lv_iconst (v := nI 1) hx hb dL_law_16 (by decide) ?_
  refine va_newa (atype := .long) (ty := .long) (N' := 1) (a0 := (1, .inr (.inl (fun t9 => lI ((fun _ => (0 : Int)) t9))))) hx hb (hts (.arrayClass .long) (by decide +kernel)) rfl hK hP hD hS hA (fun cA9 => new_J cA9 1) (by decide) (by decide +kernel) (Nat.le_of_ble_eq_true rfl) (Nat.le_of_ble_eq_true rfl) (Nat.le_of_ble_eq_true rfl) dL_law_17 (fun qa_23 cA9 H hK9 hP hD hS => ?_)
  have hcA : cA9 = cJ := Option.some.inj ((show s.vm.findClass ("[" ++ FieldType.toString .long) = some cA9 from (hK9.2 3 _ rfl).2).symm.trans (show s.vm.findClass ("[" ++ FieldType.toString .long) = some cJ from (hK9.2 1 _ rfl).2))
  rw [hcA] at hP hD
  clear hK9 hcA
  have hP : va_P (dC, dI) vwCl [(qo_1, .inr (2, [.int (nI 1), .ref ra_2, .ref rb_3, .int (nI 0), .ref sm_4, .ref hh_7, .ref ps_11, .ref pb_14])), (ra_2, .inl (cI, 256, .inl (fun _ => 0))), (rb_3, .inl (cI, 256, .inl (fun _ => 0))), (sm_4, .inr (1, [.ref so_5])), (so_5, .inl (cO, 3, .inr (.inr (.inr (.inr (fun i => if i < 3 then some (rr_6 i) else none)))))), ((rr_6 0), .inl (cI, 511, .inl (fun _ => 0))), ((rr_6 1), .inl (cI, 511, .inl (fun _ => 0))), ((rr_6 2), .inl (cI, 511, .inl (fun _ => 0))), (hh_7, .inr (0, [.ref lf_8, .ref rt_9, .ref rp_10])), (lf_8, .inl (cJ, 512, .inr (.inl (fun t9 => lI ((fun _ => (0 : Int)) t9))))), (rt_9, .inl (cJ, 512, .inr (.inl (fun t9 => lI ((fun _ => (0 : Int)) t9))))), (rp_10, .inl (cJ, 256, .inr (.inl (fun t9 => lI ((fun _ => (0 : Int)) t9))))), (ps_11, .inr (1, [.ref po_12])), (po_12, .inl (cO, 3, .inr (.inr (.inr (.inr (fun i => if i < 3 then some (rq_13 i) else none)))))), ((rq_13 0), .inl (cI, 256, .inl (fun _ => 0))), ((rq_13 1), .inl (cI, 256, .inl (fun _ => 0))), ((rq_13 2), .inl (cI, 256, .inl (fun _ => 0))), (pb_14, .inl (cI, 256, .inl (fun _ => 0))), (qo_15, .inr (3, [.int 0, .int (nI (2 ^ 1)), .ref ma_16, .ref mb_17, .int (nI 0), .ref lo_18, .ref hi_19, .ref kp_20, .ref ot_21, .ref su_22])), (ma_16, .inl (cI, 256, .inl (fun _ => 0))), (mb_17, .inl (cI, 256, .inl (fun _ => 0))), (lo_18, .inl (cJ, 511, .inr (.inl (fun t9 => lI ((fun _ => (0 : Int)) t9))))), (hi_19, .inl (cJ, 511, .inr (.inl (fun t9 => lI ((fun _ => (0 : Int)) t9))))), (kp_20, .inl (cI, 256, .inl (fun _ => 0))), (ot_21, .inl (cI, 256, .inl (fun _ => 0))), (su_22, .inl (cI, 256, .inl (fun _ => 0))), (qa_23, .inl (cJ, 1, .inr (.inl (fun t9 => lI ((fun _ => (0 : Int)) t9)))))] H := hP
  have hD : va_D A [(qo_1, .inr (2, [.int (nI 1), .ref ra_2, .ref rb_3, .int (nI 0), .ref sm_4, .ref hh_7, .ref ps_11, .ref pb_14])), (ra_2, .inl (cI, 256, .inl (fun _ => 0))), (rb_3, .inl (cI, 256, .inl (fun _ => 0))), (sm_4, .inr (1, [.ref so_5])), (so_5, .inl (cO, 3, .inr (.inr (.inr (.inr (fun i => if i < 3 then some (rr_6 i) else none)))))), ((rr_6 0), .inl (cI, 511, .inl (fun _ => 0))), ((rr_6 1), .inl (cI, 511, .inl (fun _ => 0))), ((rr_6 2), .inl (cI, 511, .inl (fun _ => 0))), (hh_7, .inr (0, [.ref lf_8, .ref rt_9, .ref rp_10])), (lf_8, .inl (cJ, 512, .inr (.inl (fun t9 => lI ((fun _ => (0 : Int)) t9))))), (rt_9, .inl (cJ, 512, .inr (.inl (fun t9 => lI ((fun _ => (0 : Int)) t9))))), (rp_10, .inl (cJ, 256, .inr (.inl (fun t9 => lI ((fun _ => (0 : Int)) t9))))), (ps_11, .inr (1, [.ref po_12])), (po_12, .inl (cO, 3, .inr (.inr (.inr (.inr (fun i => if i < 3 then some (rq_13 i) else none)))))), ((rq_13 0), .inl (cI, 256, .inl (fun _ => 0))), ((rq_13 1), .inl (cI, 256, .inl (fun _ => 0))), ((rq_13 2), .inl (cI, 256, .inl (fun _ => 0))), (pb_14, .inl (cI, 256, .inl (fun _ => 0))), (qo_15, .inr (3, [.int 0, .int (nI (2 ^ 1)), .ref ma_16, .ref mb_17, .int (nI 0), .ref lo_18, .ref hi_19, .ref kp_20, .ref ot_21, .ref su_22])), (ma_16, .inl (cI, 256, .inl (fun _ => 0))), (mb_17, .inl (cI, 256, .inl (fun _ => 0))), (lo_18, .inl (cJ, 511, .inr (.inl (fun t9 => lI ((fun _ => (0 : Int)) t9))))), (hi_19, .inl (cJ, 511, .inr (.inl (fun t9 => lI ((fun _ => (0 : Int)) t9))))), (kp_20, .inl (cI, 256, .inl (fun _ => 0))), (ot_21, .inl (cI, 256, .inl (fun _ => 0))), (su_22, .inl (cI, 256, .inl (fun _ => 0))), (qa_23, .inl (cJ, 1, .inr (.inl (fun t9 => lI ((fun _ => (0 : Int)) t9)))))] := hD
  refine W.widen (k := 27) (n := 6681) (by omega) (by omega) ?_
  refine lv_astore_n (lv' := [(3, .ref qa_23), (2, .ref qo_15), (1, .ref qo_1), (0, .ref b)]) hx hb dL_law_19 rfl hl (by decide) rfl (fun ls hl => ?_)
  refine lv_iconst (v := nI 0) hx hb dL_law_20 (by decide) ?_
  refine lv_istore (lv' := [(4, .int (nI 0)), (3, .ref qa_23), (2, .ref qo_15), (1, .ref qo_1), (0, .ref b)]) hx hb dL_law_21 hl (by decide) rfl (fun ls hl => ?_)
  exact law_loop (xo := qo_1) (sm := sm_4) (hh := hh_7) (ps := ps_11) (pb := pb_14) (lf := lf_8) (rt := rt_9) (rp := rp_10) (so := so_5) (r0 := (rr_6 0)) (r1 := (rr_6 1)) (r2 := (rr_6 2)) (g := fun i => if i < 3 then some (rr_6 i) else none) (po := po_12) (p0 := (rq_13 0)) (p1 := (rq_13 1)) (p2 := (rq_13 2)) (g9 := fun i => if i < 3 then some (rq_13 i) else none) (mo := qo_15) (ma := ma_16) (mb := mb_17) (lo := lo_18) (hi := hi_19) (kp := kp_20) (ot := ot_21) (su := su_22) (oa := qa_23) HA ⟨rfl, rfl, rfl, rfl, rfl, rfl⟩ 3000 0 (by omega) (by omega) 1 0 0 ra_2 rb_3 (fun _ => 0) (fun _ => 0) (fun _ => 0) (fun _ => 0) (fun _ => 0) (fun _ => 0) (fun _ => 0) (fun _ => 0) (fun _ => 0) (fun _ => 0) (fun _ => 0) (fun _ => 0) (fun _ => 0) (fun _ => 0) (fun _ => (0 : Int)) (fun _ => (0 : Int)) (fun _ => (0 : Int)) (fun _ => (0 : Int)) (fun _ => (0 : Int)) (fun _ => (0 : Int)) 27 6681 rel_init (by omega) (by omega) _ _ _ (hP.sub [0, 1, 2, 3, 4, 5, 6, 7, 8, 9, 10, 11, 12, 13, 14, 15, 16, 17, 18, 19, 20, 21, 22, 23, 24, 25, 26] rfl) (hD.sub [0, 1, 2, 3, 4, 5, 6, 7, 8, 9, 10, 11, 12, 13, 14, 15, 16, 17, 18, 19, 20, 21, 22, 23, 24, 25, 26] (by decide) rfl) hS (lv_sub hl [0, 1, 2, 3, 4] rfl)
set_option maxHeartbeats 4000000 in
theorem lw_walk (l : Launch) (hl9 : l.stackTraces = false) (b : Addr) (xs : List Int32) : MetFree l x (headSpec (Jvm.Cond.code x code maxLocals ret :: tables_1) room_1) (lw_P b xs) (fun _ _ _ _ _ => True) lw_Q := by
  refine MetFree.of_bodyS (code := code) (maxLocals := maxLocals) (ret := ret) (by decide) ?_ ?_
  · intro args s m h hn
    obtain ⟨meth, c, h1, h2, h3, h4, h5, h6, -, -⟩ := Cond.code_spec hn (atoms_spec (ws := Jvm.Cond.code x code maxLocals ret :: tables_1) h _ List.mem_cons_self)
    exact ⟨meth, c, h1, h2, h3, h4, h5, h6⟩
  · intro p e s m args below meth c s₁ B hml0 hP _
    obtain ⟨rfl, hx, hbd, hgv⟩ := hP
    obtain ⟨scr, harrAt, hlist, hof, hsmall⟩ := hx
    obtain ⟨hcb, hkn, -, -⟩ := State.arrayAt?_spec harrAt
    have hown : s.vm.findClass R_law = some m.cls := findClass_of_methodNamed B.named
    have hts0 : ∀ c ∈ (Jvm.Cond.code x code maxLocals ret :: tables_1), c.before #[Value.ref b] s = true := atoms_spec (ws := Jvm.Cond.code x code maxLocals ret :: tables_1) B.pre
    have hts : ∀ w ∈ lw_tbl, w.before #[Value.ref b] s = true := k2_hts_sels lw_privs (fun w hw => hts0 w (List.mem_cons_of_mem _ hw)) lw_privs_ok
    have hml : c.maxLocals = 8 := B.maxLocals_eq (hts0 _ List.mem_cons_self)
    have X₀ : Stand p l e room_1 s m #[Value.ref b] below meth c s₁ [] 0 0 := Stand.of_body B
    have hh0 : s₁.heap = s.heap := by rw [B.state]; rfl
    have hsz : scr.slots.size = xs.length := by rw [← Array.length_toList, hlist, List.length_map]
    have hval : ∀ j : Nat, j < xs.length → scr.slots[j]? = some (.int (xs.getD j 0)) := fun j hj => by
      rw [← Array.getElem?_toList, hlist]
      simp [hj]
    have hbl : b < s.heap.size := (Array.getElem?_eq_some_iff.mp hcb).1
    have hX : va_X b xs.length (fun j => xs.getD j 0) s s.heap := ⟨scr, hcb, hof, hkn, hsz, hval⟩
    have K : W p l e room_1 s m #[Value.ref b] below meth c s₁.heap [] 0 0 (lw_Z below #[Value.ref b] s) (entryFrame m ([Value.ref b] : List Value).toArray 8) := by
      rw [hh0]
      exact whole_start l hl9 hbd ⟨B.exec, B.bytes, B.returns, hml, hown, hts, hX, hbl, B.notSynchronized, hgv⟩
    obtain ⟨t, a1, o, b1, b2, b3⟩ := K s₁ rfl X₀
    exact ⟨t, o, a1, b1, b2, b3⟩
theorem lw_pre_spec {args : Array Value} {s : State} (h : (Jvm.Cond.and given_1 narrow_1).before args s = true) (hr : rest_1_c.before args s = true) : ∃ (b : Addr) (xs : List Int32), lw_P b xs args s := by
  have hs := flat_of_before _ h
  have hq := flat_of_before _ hr
  have hc : (Cond.count 1).before args s = true := hs _ (by decide +kernel)
  have harr : (Cond.arrayOf (.arg 0) .int).before args s = true := hs _ (by decide +kernel)
  have hle : (Cond.le (.length (.arg 0)) (.int 2048)).before args s = true := hs _ (by decide +kernel)
  have hlen : (Cond.isInt (.length (.arg 0))).before args s = true := hq _ (by decide +kernel)
  have hall : (Cond.all (.arg 0) (.isInt (.elem (.arg 0) (.index 0)))).before args s = true := hq _ (by decide +kernel)
  obtain ⟨b, xs, hb, hx⟩ := State.ints_of_pre rfl harr hlen hall
  have hsm : xs.length < 2 ^ 31 := hx.choose_spec.2.2.2
  have hev : (Term.length (.arg 0)).eval args s none [] s = some (.int xs.length.toInt32) := hx.length_eval hb
  have hv := Cond.le_ints hev (show (Term.int 2048).eval args s none [] s = some (.int 2048) from rfl)
  have hd : xs.length.toInt32 ≤ 2048 := by
    simpa [Cond.before, Cond.holds, hv] using hle
  have hN : xs.length ≤ 2048 := (Int32.ofNat_le_ofNat hsm (by decide)).mp (show Int32.ofNat xs.length ≤ Int32.ofNat 2048 from hd)
  exact ⟨b, xs, Cond.one_arg hc (show args[0]? = some (.ref b) from hb), hx, hN, h⟩
theorem lw_comes (l : Launch) (hl9 : l.stackTraces = false) : Comes l x (Jvm.Cond.code x code maxLocals ret :: tables_1) room_1 (fun tb e args s => Calls_1 tb e args s ∧ rest_1 tb e args s ∧ Pre_1 tb e args s)
    (fun _ _ args s o t => lw_Q args s o t) := by
  intro p e ha hc hk s m args below hf hfit hheap happ hpre
  obtain ⟨b, xs, hP⟩ := lw_pre_spec hpre.2.2 hpre.2.1
  obtain ⟨k, o, h1, h2, h3, hQ⟩ := lw_walk l hl9 b xs p e ha hc hk s m args below hf ((Spec.applies_iff_loose hf).mp happ).1 hP trivial
  exact ⟨k, o, h1, h2, h3, hQ⟩
theorem lw_frame {s t : State} {o : Outcome} {args : Array Value} (h : Framed s o t [] 601024 7293034) :
    Framed s o t (fieldLocs frame_1_writes args s ++ arrayLocs frame_1_arrays args s ++ staticLocs frame_1_statics s) 601024 7293034 := h
theorem lw_limb (L : Cond) (hL : ∀ (args : Array Value) (s t : State), L.after args s (.returned (some (.int 1))) t = true) :
    ArmFor flags0 classFile x code maxLocals ret World_1 tables_1 room_1 Calls_1 rest_1 Pre_1
      (fun tb e a s o t => postC L tb e a s o t ∧ Framed s o t (fieldLocs frame_1_writes a s ++ arrayLocs frame_1_arrays a s ++ staticLocs frame_1_statics s) 601024 7293034) := by
  intro l hf9 _ _ p e ha hc hk s m args below hf hfit hheap happ hpre
  obtain ⟨k, o, h1, h2, h3, rfl, hF⟩ := lw_comes l (by unfold Launch.stackTraces; rw [hf9]; decide) p e ha hc hk s m args below hf hfit hheap happ hpre
  exact ⟨k, _, h1, h2, h3, hL args s _, lw_frame hF⟩
