def R_law : String := "ThreePrimesLaw"
def lw_P (b : Addr) (xs : List Int32) (args : Array Value) (s : State) : Prop := args = #[.ref b] ∧ s.IntsAt b xs ∧ xs.length ≤ 2048 ∧ (Jvm.Cond.and given_1 narrow_1).before args s = true
def lw_Q (_ : Array Value) (s : State) (o : Outcome) (t : State) : Prop := o = .returned (some (.int 1)) ∧ Framed s o t [] 601024 7293034
def lw_Z (below : List Frame) (a : Array Value) (s : State) : State → Prop := fun t => ∃ o, t.status = .running ∧ Ended t below o ∧ lw_Q a s o t
/-- the law's own end, with 1 on the stack, nothing written that was there before, its room as the claim has it -/
theorem lw_ret {p : Program} {l : Launch} {e : Env} {s : State} {m : MethodId} {below : List Frame} {meth : Method} {c : Code} {b : Nat} (hx : p.tables.exec = Jvm.exec) (hb : c.code = code) (hr : meth.sig.returnType = ret) (hlocks : meth.locks = false) {pc : Nat} {H : Heap} {ls : Array Slot} (hdg : decode code pc = .ok (.ireturn, 1)) : W p l e room_1 s m #[Value.ref b] below meth c H [] 601024 7293034 (lw_Z below #[Value.ref b] s) (F0 m pc ls [.int 1]) := by
  intro T hT X
  obtain ⟨fs, hret, hrun, hended, hW, hframe⟩ := X.leave (v := some (.int 1)) (hlocks := hlocks) (fun h => by rw [hr] at h; cases h)
  have hmeth' : T.vm.method? m = some meth := X.method'
  refine ⟨T.setFrames fs, ?_, .returned (some (.int 1)), hrun, hended, rfl, ⟨_, rfl⟩, hW, hframe⟩
  jvm_step X.here [X.here.top, hx, hb, hdg, hmeth', hr, ret, narrow_b1]
  (try refine ⟨rfl, ?_⟩); (try refine ⟨rfl, ?_⟩)
  first | (intro acts; rw [hret _ acts rfl rfl rfl]) | rw [hret _ _ rfl rfl rfl]
  exact Steps.refl _
/-- what holds at the law's entry: the machine, the code, the tables' words (any of lw_tbl by 'hts w (by decide +kernel)'), the script of L ints xs at the cell b, what the Statement gives of the start (any of its parts by flat_of_before) -/
def lw_At (p : Program) (s : State) (m : MethodId) (meth : Method) (c : Code) (b L : Nat) (xs : Nat → Int32) : Prop :=
  p.tables.exec = Jvm.exec ∧ c.code = code ∧ meth.sig.returnType = ret ∧ c.maxLocals = 8 ∧ s.vm.findClass R_law = some m.cls ∧ (∀ w ∈ lw_tbl, w.before #[Value.ref b] s = true) ∧ va_X b L xs s s.heap ∧ b < s.heap.size ∧ meth.locks = false ∧ (Jvm.Cond.and given_1 narrow_1).before #[Value.ref b] s = true
theorem lg_self (x : Int64) : lg_cmp x x = nI 0 := (lg_cmp_eq x x).mpr rfl
/-- the class's state and the reference's hold the same -/
def REL (k rs : Nat) (fA fB R0 R1 R2 fa fb : Nat → Int32) (LW HW : Nat → Int) : Prop :=
  1 ≤ k ∧ k ≤ 8 ∧ rs ≤ 511 ∧ (rs = 0 ∨ 2 ^ k ≤ rs) ∧ (∀ j, j < 2 ^ k → fA j = fa j) ∧ (∀ j, j < 2 ^ k → fB j = fb j) ∧
  ∀ j, j < rs → (-2 ^ 78 ≤ LW j ∧ LW j ≤ 2 ^ 78) ∧ HW j = LW j / 18446744073709551616 ∧ (R0 j).toInt = LW j % 998244353 ∧ (R1 j).toInt = LW j % 167772161 ∧ (R2 j).toInt = LW j % 469762049
theorem rel_0 {fA fB R0 R1 R2 fa fb : Nat → Int32} {LW HW : Nat → Int} {n : Nat} (h1 : 1 ≤ n) (h2 : n ≤ 8) : REL n 0 (zrI fA (2 ^ n)) (zrI fB (2 ^ n)) R0 R1 R2 (zrI fa 256) (zrI fb 256) LW HW := by
  have hp := pw8 h2
  refine ⟨h1, h2, by omega, Or.inl rfl, fun j hj => ?_, fun j hj => ?_, fun j hj => by omega⟩
  · unfold zrI
    rw [if_pos hj, if_pos (by omega)]
  · unfold zrI
    rw [if_pos hj, if_pos (by omega)]
theorem rel_A {k rs : Nat} {fA fB R0 R1 R2 fa fb : Nat → Int32} {LW HW : Nat → Int} (h : REL k rs fA fB R0 R1 R2 fa fb LW HW) (j : Nat) (v : Int32) : REL k rs (upd fA j v) fB R0 R1 R2 (upd fa j v) fb LW HW := by
  obtain ⟨h1, h2, h3, h4, h5, h6, h7⟩ := h
  refine ⟨h1, h2, h3, h4, fun i hi => ?_, h6, h7⟩
  rw [upd_eq, upd_eq, h5 i hi]
theorem rel_B {k rs : Nat} {fA fB R0 R1 R2 fa fb : Nat → Int32} {LW HW : Nat → Int} (h : REL k rs fA fB R0 R1 R2 fa fb LW HW) (j : Nat) (v : Int32) : REL k rs fA (upd fB j v) R0 R1 R2 fa (upd fb j v) LW HW := by
  obtain ⟨h1, h2, h3, h4, h5, h6, h7⟩ := h
  refine ⟨h1, h2, h3, h4, h5, fun i hi => ?_, h7⟩
  rw [upd_eq, upd_eq, h6 i hi]
theorem rel_swap {k rs : Nat} {fA fB R0 R1 R2 fa fb : Nat → Int32} {LW HW : Nat → Int} (h : REL k rs fA fB R0 R1 R2 fa fb LW HW) : REL k rs fB fA R0 R1 R2 (mix fb fa (2 ^ k)) (mix fa fb (2 ^ k)) LW HW := by
  obtain ⟨h1, h2, h3, h4, h5, h6, h7⟩ := h
  exact ⟨h1, h2, h3, h4, fun i hi => (h6 i hi).trans (mix_lt hi).symm, fun i hi => (h5 i hi).trans (mix_lt hi).symm, h7⟩
theorem rel_fold {kd : Nat} (hkd : kd < 3) {k rs : Nat} {fA fB R0 R1 R2 fa fb : Nat → Int32} {LW HW : Nat → Int} (h : REL k rs fA fB R0 R1 R2 fa fb LW HW) {a b w : Nat → Nat → Int} {H2 : Nat → Int} (hH : ∀ j, j < cntK kd k → H2 j = acc (zrL LW (cntK kd k)) kd (2 ^ k) fa fb (2 ^ k) j / 18446744073709551616) :
    REL k (cntK kd k) fA fB (stR R0 (fdq kd fA fB (a 0) (b 0) (w 0) k 998244353) (cntK kd k)) (stR R1 (fdq kd fA fB (a 1) (b 1) (w 1) k 167772161) (cntK kd k)) (stR R2 (fdq kd fA fB (a 2) (b 2) (w 2) k 469762049) (cntK kd k)) fa fb (acc (zrL LW (cntK kd k)) kd (2 ^ k) fa fb (2 ^ k)) H2 := by
  obtain ⟨h1, h2, h3, h4, h5, h6, h7⟩ := h
  have hp := pw8 h2
  have hc := cnt_b hkd h2
  refine ⟨h1, h2, hc.1, Or.inr hc.2, h5, h6, fun j hj => ?_⟩
  have e := acc_SK (F := LW) (kd := kd) (n := 2 ^ k) (f := fa) (g := fb) hj
  have e2 : SK kd (2 ^ k) fA fB j = SK kd (2 ^ k) fa fb j := SK_congr h5 h6 j
  have hb := SK_b (kd := kd) (f := fa) (g := fb) (i := j) hp.2
  have hr : ∀ (R : Nat → Int32) (x y z : Nat → Int) (P : Nat), isPr P → P ≤ 2 ^ 30 → (stR R (fdq kd fA fB x y z k P) (cntK kd k) j).toInt = SK kd (2 ^ k) fa fb j % (P : Int) := by
    intro R x y z P hP hP2
    unfold stR
    rw [if_pos hj, fd_all hkd hP h1 h2 hj, e2]
    have := emod_rng (SK kd (2 ^ k) fa fb j) (show (0 : Int) < P by rcases hP with rfl | rfl | rfl <;> decide)
    exact iI_toInt (by omega) (by omega)
  rw [hH j hj, e]
  exact ⟨hb, rfl, hr _ _ _ _ _ (Or.inl rfl) (by decide), hr _ _ _ _ _ (Or.inr (Or.inl rfl)) (by decide), hr _ _ _ _ _ (Or.inr (Or.inr rfl)) (by decide)⟩
theorem rel_keep {k rs : Nat} {fA fB R0 R1 R2 fa fb : Nat → Int32} {LW HW : Nat → Int} (h : REL k rs fA fB R0 R1 R2 fa fb LW HW) (hrs : 1 ≤ rs) : REL k rs (ctI fA R0 R1 R2 (2 ^ k)) fB R0 R1 R2 (mix (fun i => iI (LW i)) fa (2 ^ k)) fb LW HW := by
  obtain ⟨h1, h2, h3, h4, h5, h6, h7⟩ := h
  refine ⟨h1, h2, h3, h4, fun j hj => ?_, h6, h7⟩
  obtain ⟨q1, q2, q3, q4, q5⟩ := h7 j (by omega)
  unfold ctI
  rw [if_pos hj, mix_lt hj, q3, q4, q5, (crt q1.1 q1.2).1]
theorem tp_one {x t1 t2 : Nat} (a1 : 2 ^ t1 ≤ x) (a2 : x < 2 ^ (t1 + 1)) (b1 : 2 ^ t2 ≤ x) (b2 : x < 2 ^ (t2 + 1)) : t1 = t2 := by
  rcases Nat.lt_trichotomy t1 t2 with q | q | q
  · have : 2 ^ (t1 + 1) ≤ 2 ^ t2 := Nat.pow_le_pow_right (by omega) q
    omega
  · exact q
  · have : 2 ^ (t2 + 1) ≤ 2 ^ t1 := Nat.pow_le_pow_right (by omega) q
    omega
theorem pwT_congr {f g : Nat → Int32} {n x tp : Nat} (hn : 0 < n) (h : ∀ j, j < n → f j = g j) : ∀ t j, j < n → pwT f n x tp t j = pwT g n x tp t j
  | 0, j, hj => h j hj
  | t + 1, j, hj => by
    have ih := pwT_congr (x := x) (tp := tp) hn h t
    have h2 := c32_congr hn ih ih
    rw [pwT_succ, pwT_succ]
    split
    · exact c32_congr hn h2 h j hj
    · exact h2 j hj
theorem pow_same {k x : Nat} {fA fa K V : Nat → Int32} (hk : k ≤ 8) (h : ∀ j, j < 2 ^ k → fA j = fa j) (h1 : ∃ tp, 2 ^ tp ≤ x ∧ x < 2 ^ (tp + 1) ∧ tp ≤ 9 ∧ ∀ j, j < 2 ^ k → K j = pwT fA (2 ^ k) x tp tp j) (h2 : ∃ tp, 2 ^ tp ≤ x ∧ x < 2 ^ (tp + 1) ∧ tp ≤ 9 ∧ ∀ j, j < 2 ^ k → V j = pwT fa (2 ^ k) x tp tp j) : ∀ j, j < 2 ^ k → K j = V j := by
  obtain ⟨t1, a1, a2, -, a4⟩ := h1
  obtain ⟨t2, b1, b2, -, b4⟩ := h2
  obtain rfl := tp_one a1 a2 b1 b2
  intro j hj
  rw [a4 j hj, b4 j hj]
  exact pwT_congr (Nat.lt_of_lt_of_le Nat.zero_lt_one (pw8 hk).1) h _ j hj
theorem rel_pow {k rs : Nat} {fA fB R0 R1 R2 fa fb K V : Nat → Int32} {LW HW : Nat → Int} (h : REL k rs fA fB R0 R1 R2 fa fb LW HW) (hKV : ∀ j, j < 2 ^ k → K j = V j) : REL k rs K fB R0 R1 R2 (mix V fa (2 ^ k)) fb LW HW := by
  obtain ⟨h1, h2, h3, h4, h5, h6, h7⟩ := h
  exact ⟨h1, h2, h3, h4, fun i hi => (hKV i hi).trans (mix_lt hi).symm, h6, h7⟩
theorem eq_low {k rs : Nat} {fA fB R0 R1 R2 fa fb : Nat → Int32} {LW HW : Nat → Int} (h : REL k rs fA fB R0 R1 R2 fa fb LW HW) {j : Nat} (hj : j < rs) : lI (LW j) = lI (lowZ (R0 j).toInt (R1 j).toInt (R2 j).toInt) := by
  obtain ⟨q1, q2, q3, q4, q5⟩ := h.2.2.2.2.2.2 j hj
  rw [q3, q4, q5, (crt q1.1 q1.2).1]
theorem eq_high {k rs : Nat} {fA fB R0 R1 R2 fa fb : Nat → Int32} {LW HW : Nat → Int} (h : REL k rs fA fB R0 R1 R2 fa fb LW HW) {j : Nat} (hj : j < rs) : iI (HW j) = iI (highZ (R0 j).toInt (R1 j).toInt (R2 j).toInt) := by
  obtain ⟨q1, q2, q3, q4, q5⟩ := h.2.2.2.2.2.2 j hj
  rw [q3, q4, q5, (crt q1.1 q1.2).2, q2]
theorem eq_rest {r : Int32} {z : Int} {P : Nat} (h : r.toInt = z % (P : Int)) : iI (z % (P : Int)) = r := by
  rw [← h, iI_of]
theorem eq_value {k q j : Nat} {fA fa : Nat → Int32} (hk : k ≤ 8) (hj : j < 2 ^ k) (h : ∀ j, j < 2 ^ k → fA j = fa j) : iI (psm fa (frW k (prN q) ^ j % (prN q : Int)) (2 ^ k) % (prN q : Int)) = iI (hz fA (frW k (prN q) ^ ex32 (nI j) k % (prN q : Int)) 0 (2 ^ k) % (prN q : Int)) := by
  rw [hz_eq h, ex_nI hk hj]
theorem eq_back {k q j : Nat} {fA fa : Nat → Int32} (hk : k ≤ 8) (hj : j < 2 ^ k) (h : ∀ j, j < 2 ^ k → fA j = fa j) : iI ((psm fa (frW k (prN q) ^ ((2 ^ k - j) % 2 ^ k) % (prN q : Int)) (2 ^ k) % (prN q : Int)) * (((2 ^ k : Nat) : Int) ^ (prN q - 2) % (prN q : Int)) % (prN q : Int)) = iI ((hz fA (frW k (prN q) ^ ex32 (-nI j) k % (prN q : Int)) 0 (2 ^ k) % (prN q : Int)) * (((2 ^ k : Nat) : Int) ^ (prN q - 2) % (prN q : Int)) % (prN q : Int)) := by
  rw [hz_eq h, ex_neg hk hj]
theorem eq_prod {x y : Int32} {P : Int} : iI (x.toInt % P * (y.toInt % P) % P) = iI (x.toInt * y.toInt % P) := by
  rw [← Int.mul_emod]
theorem rng {x : Int32} (a b : Nat) (hb : a ≤ b ∧ b + 1 < 2 ^ 31) : x < nI a ∨ nI b < x ∨ ∃ n : Nat, a ≤ n ∧ n ≤ b ∧ x = nI n := by
  have hb2 := hb.2
  rcases pk_ix x (n := b + 1) hb2 with h | h | ⟨j, hj, rfl⟩
  · refine Or.inl ?_
    rw [Int32.lt_iff_toInt_lt] at h ⊢
    have h0 : (0 : Int32).toInt = 0 := rfl
    rw [nI_toInt (by omega)]
    omega
  · refine Or.inr (Or.inl ?_)
    rw [Int32.le_iff_toInt_le, nI_toInt hb2] at h
    rw [Int32.lt_iff_toInt_lt, nI_toInt (by omega)]
    omega
  · by_cases ha : a ≤ j
    · exact Or.inr (Or.inr ⟨j, ha, by omega, rfl⟩)
    · exact Or.inl (nI_lt (by omega) (by omega))
def LA (p : Program) (l : Launch) (e : Env) (s : State) (m : MethodId) (below : List Frame) (meth : Method) (c : Code) (b L : Nat) (xs : Nat → Int32) (dC : Nat → ClassId) (dI : Nat → Nat → Nat) (cI cJ cO : ClassId) (tP : Nat) (sa : Nat → Nat) (A : Nat → Prop) : Prop := p.tables.exec = Jvm.exec ∧ c.code = cL_law ∧ c.maxLocals = 8 ∧ s.vm.findClass RL = some m.cls ∧ (∀ w ∈ wsL_law, w.before #[Value.ref b] s = true) ∧ va_X b L xs s s.heap ∧ b < s.heap.size ∧ ¬ A b ∧ va_K (dC, dI) vwCl [(cI, .int), (cJ, .long), (cO, .array .int)] s ∧ amb tP sa A s s.heap ∧ (∀ q : Nat, s.heap.size ≤ q → A q) ∧ l.stackTraces = false ∧ L ≤ 2048 ∧ (∀ q : Nat, A q → s.heap.size ≤ q) ∧ meth.sig.returnType = ret ∧ meth.locks = false
def LG (g g9 : Nat → Option Nat) (r0 r1 r2 p0 p1 p2 : Nat) : Prop := g 0 = some r0 ∧ g 1 = some r1 ∧ g 2 = some r2 ∧ g9 0 = some p0 ∧ g9 1 = some p1 ∧ g9 2 = some p2
def LC (p : Program) (l : Launch) (e : Env) (s : State) (m : MethodId) (below : List Frame) (meth : Method) (c : Code) (b L : Nat) (xs : Nat → Int32) (dC : Nat → ClassId) (dI : Nat → Nat → Nat) (cI cJ cO : ClassId) (tP : Nat) (sa : Nat → Nat) (A : Nat → Prop) (xo sm hh ps pb lf rt rp so r0 r1 r2 : Nat) (g : Nat → Option Nat) (po p0 p1 p2 : Nat) (g9 : Nat → Option Nat) (mo ma mb lo hi kp ot su oa : Nat) (i cb sb pc : Nat) : Prop := ∀ (k rs : Nat) (tv : Int32) (ra rb : Nat) (fA fB R0 R1 R2 S0 S1 S2 fp fa fb fk fo fs : Nat → Int32) (FL FR FP LW HW FO : Nat → Int) (c9 s9 : Nat), REL k rs fA fB R0 R1 R2 fa fb LW HW → c9 ≤ cb → s9 ≤ sb → ∀ (H : Heap) (locs : List Loc) (ls : Array Slot), va_P (dC, dI) vwCl [(xo, .inr (2, [.int (nI k), .ref ra, .ref rb, .int (nI rs), .ref sm, .ref hh, .ref ps, .ref pb])), (ra, .inl (cI, 256, .inl fA)), (rb, .inl (cI, 256, .inl fB)), (sm, .inr (1, [.ref so])), (so, .inl (cO, 3, .inr (.inr (.inr (.inr g))))), (r0, .inl (cI, 511, .inl R0)), (r1, .inl (cI, 511, .inl R1)), (r2, .inl (cI, 511, .inl R2)), (hh, .inr (0, [.ref lf, .ref rt, .ref rp])), (lf, .inl (cJ, 512, .inr (.inl (fun t9 => lI (FL t9))))), (rt, .inl (cJ, 512, .inr (.inl (fun t9 => lI (FR t9))))), (rp, .inl (cJ, 256, .inr (.inl (fun t9 => lI (FP t9))))), (ps, .inr (1, [.ref po])), (po, .inl (cO, 3, .inr (.inr (.inr (.inr g9))))), (p0, .inl (cI, 256, .inl S0)), (p1, .inl (cI, 256, .inl S1)), (p2, .inl (cI, 256, .inl S2)), (pb, .inl (cI, 256, .inl fp)), (mo, .inr (3, [.int tv, .int (nI (2 ^ k)), .ref ma, .ref mb, .int (nI rs), .ref lo, .ref hi, .ref kp, .ref ot, .ref su])), (ma, .inl (cI, 256, .inl fa)), (mb, .inl (cI, 256, .inl fb)), (lo, .inl (cJ, 511, .inr (.inl (fun t9 => lI (LW t9))))), (hi, .inl (cJ, 511, .inr (.inl (fun t9 => lI (HW t9))))), (kp, .inl (cI, 256, .inl fk)), (ot, .inl (cI, 256, .inl fo)), (su, .inl (cI, 256, .inl fs)), (oa, .inl (cJ, 1, .inr (.inl (fun t9 => lI (FO t9)))))] H → va_D A [(xo, .inr (2, [.int (nI k), .ref ra, .ref rb, .int (nI rs), .ref sm, .ref hh, .ref ps, .ref pb])), (ra, .inl (cI, 256, .inl fA)), (rb, .inl (cI, 256, .inl fB)), (sm, .inr (1, [.ref so])), (so, .inl (cO, 3, .inr (.inr (.inr (.inr g))))), (r0, .inl (cI, 511, .inl R0)), (r1, .inl (cI, 511, .inl R1)), (r2, .inl (cI, 511, .inl R2)), (hh, .inr (0, [.ref lf, .ref rt, .ref rp])), (lf, .inl (cJ, 512, .inr (.inl (fun t9 => lI (FL t9))))), (rt, .inl (cJ, 512, .inr (.inl (fun t9 => lI (FR t9))))), (rp, .inl (cJ, 256, .inr (.inl (fun t9 => lI (FP t9))))), (ps, .inr (1, [.ref po])), (po, .inl (cO, 3, .inr (.inr (.inr (.inr g9))))), (p0, .inl (cI, 256, .inl S0)), (p1, .inl (cI, 256, .inl S1)), (p2, .inl (cI, 256, .inl S2)), (pb, .inl (cI, 256, .inl fp)), (mo, .inr (3, [.int tv, .int (nI (2 ^ k)), .ref ma, .ref mb, .int (nI rs), .ref lo, .ref hi, .ref kp, .ref ot, .ref su])), (ma, .inl (cI, 256, .inl fa)), (mb, .inl (cI, 256, .inl fb)), (lo, .inl (cJ, 511, .inr (.inl (fun t9 => lI (LW t9))))), (hi, .inl (cJ, 511, .inr (.inl (fun t9 => lI (HW t9))))), (kp, .inl (cI, 256, .inl fk)), (ot, .inl (cI, 256, .inl fo)), (su, .inl (cI, 256, .inl fs)), (oa, .inl (cJ, 1, .inr (.inl (fun t9 => lI (FO t9)))))] → va_S A s.heap H locs → lv_has ls 8 [(4, .int (nI i)), (3, .ref oa), (2, .ref mo), (1, .ref xo), (0, .ref b)] → W p l e room_1 s m #[Value.ref b] below meth c H locs c9 s9 (lw_Z below #[Value.ref b] s) (F0 m pc ls [])
