def atK (kd n a b : Nat) : Nat := if kd < 2 ∧ n ≤ a + b then a + b - n else a + b
def vK (kd n : Nat) (f g : Nat → Int32) (a b : Nat) : Int := if kd = 1 ∧ n ≤ a + b then -((f a).toInt * (g b).toInt) else (f a).toInt * (g b).toInt
def accR (F : Nat → Int) (kd n : Nat) (f g : Nat → Int32) (a : Nat) : Nat → Nat → Int
  | 0 => F
  | b + 1 => upI (accR F kd n f g a b) (atK kd n a b) (accR F kd n f g a b (atK kd n a b) + vK kd n f g a b)
def acc (F : Nat → Int) (kd n : Nat) (f g : Nat → Int32) : Nat → Nat → Int
  | 0 => F
  | a + 1 => accR (acc F kd n f g a) kd n f g a n
theorem accR_s {F : Nat → Int} {kd n : Nat} {f g : Nat → Int32} {a b t : Nat} {v : Int} (h1 : atK kd n a b = t) (h2 : vK kd n f g a b = v) : upI (accR F kd n f g a b) t (accR F kd n f g a b t + v) = accR F kd n f g a (b + 1) := by
  subst h1; subst h2; rfl
theorem hH_s {F H : Nat → Int} {c t : Nat} {v : Int} (h : ∀ i, i < c → H i = F i / 18446744073709551616) : ∀ i, i < c → upI H t ((F t + v) / 18446744073709551616) i = upI F t (F t + v) i / 18446744073709551616 := by
  intro i hi
  unfold upI
  split
  · rfl
  · exact h i hi
def zrL (F : Nat → Int) (t : Nat) : Nat → Int := fun j => if j < t then 0 else F j
theorem zrL_0 (F : Nat → Int) : zrL F 0 = F := by
  funext j
  unfold zrL
  rw [if_neg (by omega)]
theorem zrL_s {F : Nat → Int} {t : Nat} : upI (zrL F t) t 0 = zrL F (t + 1) := by
  funext j
  unfold upI zrL
  by_cases h : j = t
  · subst h
    rw [if_pos rfl, if_pos (by omega)]
  · rw [if_neg h]
    by_cases h2 : j < t
    · rw [if_pos h2, if_pos (by omega)]
    · rw [if_neg h2, if_neg (by omega)]
theorem zrL_h {F H : Nat → Int} {t : Nat} : ∀ i, i < t → zrL H t i = zrL F t i / 18446744073709551616 := by
  intro i hi
  unfold zrL
  rw [if_pos hi, if_pos hi]
  rfl
def aiR (F : Nat → Int32) (n : Nat) (f g : Nat → Int32) (a : Nat) : Nat → Nat → Int32
  | 0 => F
  | b + 1 => upd (aiR F n f g a b) ((a + b) % n) (aiR F n f g a b ((a + b) % n) + f a * g b)
def ai (F : Nat → Int32) (n : Nat) (f g : Nat → Int32) : Nat → Nat → Int32
  | 0 => F
  | a + 1 => aiR (ai F n f g a) n f g a n
/-- the round folding cut to ints -/
def c32 (f g : Nat → Int32) (n : Nat) : Nat → Int32 := ai (fun _ => 0) n f g n
theorem upd_eq {F : Nat → Int32} {k j : Nat} {v : Int32} : upd F k v j = if j = k then v else F j := rfl
theorem aiR_congr {F F' f f' g g' : Nat → Int32} {n a : Nat} (hn : 0 < n) (ha : a < n) (hF : ∀ i, i < n → F i = F' i) (hf : ∀ i, i < n → f i = f' i) (hg : ∀ i, i < n → g i = g' i) : ∀ b, b ≤ n → ∀ i, i < n → aiR F n f g a b i = aiR F' n f' g' a b i
  | 0, _, i, hi => hF i hi
  | b + 1, hb, i, hi => by
    have ih := aiR_congr hn ha hF hf hg b (by omega)
    show upd _ _ _ i = upd _ _ _ i
    rw [upd_eq, upd_eq, ih _ (Nat.mod_lt _ hn), hf a ha, hg b (by omega), ih i hi]
theorem ai_congr {F F' f f' g g' : Nat → Int32} {n : Nat} (hn : 0 < n) (hF : ∀ i, i < n → F i = F' i) (hf : ∀ i, i < n → f i = f' i) (hg : ∀ i, i < n → g i = g' i) : ∀ a, a ≤ n → ∀ i, i < n → ai F n f g a i = ai F' n f' g' a i
  | 0, _, i, hi => hF i hi
  | a + 1, ha, i, hi => aiR_congr hn (by omega) (ai_congr hn hF hf hg a (by omega)) hf hg n (Nat.le_refl n) i hi
theorem c32_of {F f f' g g' : Nat → Int32} {n : Nat} (hn : 0 < n) (hf : ∀ i, i < n → f i = f' i) (hg : ∀ i, i < n → g i = g' i) : ∀ i, i < n → ai (zrI F n) n f g n i = c32 f' g' n i :=
  ai_congr hn (fun i hi => if_pos hi) hf hg n (Nat.le_refl n)
theorem c32_congr {f f' g g' : Nat → Int32} {n : Nat} (hn : 0 < n) (hf : ∀ i, i < n → f i = f' i) (hg : ∀ i, i < n → g i = g' i) : ∀ i, i < n → c32 f g n i = c32 f' g' n i :=
  ai_congr hn (fun _ _ => rfl) hf hg n (Nat.le_refl n)
/-- t bits below the top one of x taken: squared, and multiplied where the bit is set -/
def pwT (f : Nat → Int32) (n x tp : Nat) : Nat → Nat → Int32
  | 0 => f
  | t + 1 => if x / 2 ^ (tp - 1 - t) % 2 = 1 then c32 (c32 (pwT f n x tp t) (pwT f n x tp t) n) f n else c32 (pwT f n x tp t) (pwT f n x tp t) n
theorem zz_and1 {n : Nat} (hn : n < 2 ^ 31) : nI n &&& nI 1 = nI (n % 2) := pk_andN (by omega) 1 (by decide)
theorem bit_top {x tp : Nat} (h : x < 2 ^ (tp + 1)) (h2 : ¬ x / 2 ^ tp % 2 = 0) : 2 ^ tp ≤ x ∧ x / 2 ^ tp = 1 := by
  have hp : 0 < 2 ^ tp := Nat.two_pow_pos tp
  rw [Nat.pow_succ] at h
  have h3 : x / 2 ^ tp < 2 := Nat.div_lt_of_lt_mul (by omega)
  have key : ∀ y : Nat, y < 2 → ¬ y % 2 = 0 → y = 1 := by omega
  have h4 : x / 2 ^ tp = 1 := key _ h3 h2
  exact ⟨by rcases Nat.lt_or_ge x (2 ^ tp) with q | q; · rw [Nat.div_eq_of_lt q] at h4; omega
            · exact q, h4⟩
theorem bit_low {x tp : Nat} (h : x < 2 ^ (tp + 1)) (h1 : 1 ≤ x) (h2 : x / 2 ^ tp % 2 = 0) : x < 2 ^ tp ∧ 1 ≤ tp := by
  have hp : 0 < 2 ^ tp := Nat.two_pow_pos tp
  have h3 : x < 2 ^ tp := by
    rcases Nat.lt_or_ge x (2 ^ tp) with q | q
    · exact q
    · rw [Nat.pow_succ] at h
      have a1 : x / 2 ^ tp < 2 := Nat.div_lt_of_lt_mul (by omega)
      have a2 : 1 ≤ x / 2 ^ tp := (Nat.one_le_div_iff hp).mpr q
      have key : ∀ y : Nat, y < 2 → 1 ≤ y → ¬ y % 2 = 0 := by omega
      exact absurd h2 (key _ a1 a2)
  refine ⟨h3, ?_⟩
  rcases Nat.eq_zero_or_pos tp with q | q
  · subst q
    rw [Nat.pow_zero] at h3
    omega
  · exact q
abbrev q_X4_add (dC : Nat → ClassId) (dI : Nat → Nat → Nat) (mo ma mb lo hi kp ot su k rs : Nat) (tv : Int32) (cJ : ClassId) (LW HW : Nat → Int) (i : Nat) (v : Int) (A : Nat → Prop) : Array Value → State → Outcome → State → Prop := va_Qv (fun (u : Unit) => True) (fun u t => va_P (dC, dI) vwCl [(mo, .inr (3, [.int tv, .int (nI (2 ^ k)), .ref ma, .ref mb, .int (nI rs), .ref lo, .ref hi, .ref kp, .ref ot, .ref su])), (lo, .inl (cJ, 511, .inr (.inl (fun j => lI ((upI LW i (LW i + v)) j))))), (hi, .inl (cJ, 511, .inr (.inl (fun j => lI ((upI HW i ((LW i + v) / 18446744073709551616)) j)))))] t.heap ∧ va_D A [(mo, .inr (3, [.int tv, .int (nI (2 ^ k)), .ref ma, .ref mb, .int (nI rs), .ref lo, .ref hi, .ref kp, .ref ot, .ref su])), (lo, .inl (cJ, 511, .inr (.inl (fun j => lI ((upI LW i (LW i + v)) j))))), (hi, .inl (cJ, 511, .inr (.inl (fun j => lI ((upI HW i ((LW i + v) / 18446744073709551616)) j)))))]) A
set_option maxHeartbeats 4000000 in
set_option maxRecDepth 100000 in
theorem c_X4_add (l : Launch) (dC : Nat → ClassId) (dI : Nat → Nat → Nat) (mo ma mb lo hi kp ot su k rs : Nat) (tv : Int32) (cJ : ClassId) (LW HW : Nat → Int) (i : Nat) (v : Int) (sz : Nat) (zi : i < 511) (zv1 : -2 ^ 63 ≤ v) (zv2 : v < 2 ^ 63) (zH : HW i = LW i / 18446744073709551616) : Met l yX4_add wsX4_add ({ frames := 0, cells := 0, slots := 0, locals := 0 }) (va_Pc [.ref mo, .int (nI i), .long (lI v)] (fun U => U.heap.size = sz ∧ va_P (dC, dI) vwCl [(mo, .inr (3, [.int tv, .int (nI (2 ^ k)), .ref ma, .ref mb, .int (nI rs), .ref lo, .ref hi, .ref kp, .ref ot, .ref su])), (lo, .inl (cJ, 511, .inr (.inl (fun j => lI (LW j))))), (hi, .inl (cJ, 511, .inr (.inl (fun j => lI (HW j)))))] U.heap ∧ va_K (dC, dI) vwCl [(cJ, .long)] U ∧ va_D (fun _ => True) [(mo, .inr (3, [.int tv, .int (nI (2 ^ k)), .ref ma, .ref mb, .int (nI rs), .ref lo, .ref hi, .ref kp, .ref ot, .ref su])), (lo, .inl (cJ, 511, .inr (.inl (fun j => lI (LW j))))), (hi, .inl (cJ, 511, .inr (.inl (fun j => lI (HW j)))))])) (q_X4_add dC dI mo ma mb lo hi kp ot su k rs tv cJ LW HW i v (va_A [(mo, .inr (3, [.int tv, .int (nI (2 ^ k)), .ref ma, .ref mb, .int (nI rs), .ref lo, .ref hi, .ref kp, .ref ot, .ref su])), (lo, .inl (cJ, 511, .inr (.inl (fun j => lI (LW j))))), (hi, .inl (cJ, 511, .inr (.inl (fun j => lI (HW j)))))] sz)) 0 0 (va_A [(mo, .inr (3, [.int tv, .int (nI (2 ^ k)), .ref ma, .ref mb, .int (nI rs), .ref lo, .ref hi, .ref kp, .ref ot, .ref su])), (lo, .inl (cJ, 511, .inr (.inl (fun j => lI (LW j))))), (hi, .inl (cJ, 511, .inr (.inl (fun j => lI (HW j)))))] sz) := by
  refine Met.ofW (cc := cX4_add) (maxL := 7) (ret := none) (by decide) rfl ?_
  intro p e s m args below meth c s₁ B hml hv
  obtain ⟨rfl, hsz, hP, hK, hD0⟩ := hv
  have hx := B.exec
  have hb := B.bytes
  have hr := B.returns
  have hts := atoms_spec (ws := wsX4_add) B.pre
  have hown : s.vm.findClass RX4 = some m.cls := findClass_of_methodNamed B.named
  have hlocks := B.notSynchronized
  subst hsz
  have hD := hD0.self (sz := s.heap.size)
  generalize hAe : va_A [(mo, .inr (3, [.int tv, .int (nI (2 ^ k)), .ref ma, .ref mb, .int (nI rs), .ref lo, .ref hi, .ref kp, .ref ot, .ref su])), (lo, .inl (cJ, 511, .inr (.inl (fun j => lI (LW j))))), (hi, .inl (cJ, 511, .inr (.inl (fun j => lI (HW j)))))] s.heap.size = A at hD ⊢
  have hA : ∀ q : Nat, s.heap.size ≤ q → A q := fun q h => by rw [← hAe]; exact Or.inr h
  have hS : va_S A s.heap s.heap [] := va_S.rf
  have hP : va_P (dC, dI) vwCl [(mo, .inr (3, [.int tv, .int (nI (2 ^ k)), .ref ma, .ref mb, .int (nI rs), .ref lo, .ref hi, .ref kp, .ref ot, .ref su])), (lo, .inl (cJ, 511, .inr (.inl (fun j => lI (LW j))))), (hi, .inl (cJ, 511, .inr (.inl (fun j => lI (HW j)))))] s.heap := hP
  have hl := lv_entry (([.ref mo, .int (nI i), .long (lI v)] : List Value)) (n := 7) (Nat.le_of_ble_eq_true rfl)
  rw [lg_entry_eq]
  generalize (lg_sl (([.ref mo, .int (nI i), .long (lI v)] : List Value)) ++ List.replicate (7 - (lg_sl (([.ref mo, .int (nI i), .long (lI v)] : List Value))).length) Slot.unset).toArray = ls at hl ⊢
  have hl : lv_has ls 7 [(0, .ref mo), (1, .int (nI i)), (2, .long (lI v))] := hl
  obtain ⟨H, hHe⟩ : ∃ H : Heap, H = s.heap := ⟨_, rfl⟩
  rw [← hHe] at hP
  have hS : va_S A s.heap H [] := by rw [hHe]; exact hS
  obtain ⟨locs, hlo⟩ : ∃ L : List Loc, L = [] := ⟨_, rfl⟩
  rw [← hlo] at hS ⊢
  rw [← hHe]
  have u1 := emod_rng (LW i) (show (0 : Int) < 18446744073709551616 by omega)
  have u2 := emod_rng (LW i + v) (show (0 : Int) < 18446744073709551616 by omega)
  refine lv_aload_n hx hb dX4_add_0 rfl (lv_at hl 0 rfl) ?_
  refine va_get (D := (dC, dI)) (ci := 3) (v := .ref lo) (C := RX4) (T := TX4) (N := 10) hx hb hts (by decide +kernel) hown hK hP 0 rfl rfl 5 (by decide) (hts (.fieldLink RX4 20 "ThreePrimesModel" "low" "[J") (by decide +kernel)) (fun _ h9 => h9) rfl dX4_add_1 ?_
  refine lv_iload_n hx hb dX4_add_4 rfl (lv_at hl 1 rfl) ?_
  refine va_lald hx hb hK hP 1 0 rfl rfl (vp_in_nI (by omega) (by omega)) dX4_add_5 ?_
  refine W.eq (g2 := F0 m _ ls [.long (lI (LW i))]) (by rw [nI_clamp (by omega)]) ?_
  refine lv_lstore (lv' := [(4, .long (lI (LW i))), (0, .ref mo), (1, .int (nI i)), (2, .long (lI v))]) hx hb dX4_add_6 hl (by decide) rfl (fun ls hl => ?_)
  refine lv_aload_n hx hb dX4_add_8 rfl (lv_at hl 1 rfl) ?_
  refine va_get (D := (dC, dI)) (ci := 3) (v := .ref lo) (C := RX4) (T := TX4) (N := 10) hx hb hts (by decide +kernel) hown hK hP 0 rfl rfl 5 (by decide) (hts (.fieldLink RX4 20 "ThreePrimesModel" "low" "[J") (by decide +kernel)) (fun _ h9 => h9) rfl dX4_add_9 ?_
  refine lv_iload_n hx hb dX4_add_12 rfl (lv_at hl 2 rfl) ?_
  refine lv_lload hx hb dX4_add_13 (lv_at hl 0 rfl) ?_
  refine lv_lload_n hx hb dX4_add_15 rfl (lv_at hl 3 rfl) ?_
  refine lv_ladd hx hb dX4_add_16 ?_
  refine W.eq (congrArg (fun z => F0 m _ ls (.long z :: _)) (show lI (LW i) + lI v = lI ((LW i) + v) from lI_add (LW i) v)) ?_
  refine va_last hx hb hK hP hD hS 1 0 rfl rfl (vp_in_nI (by omega) (by omega)) dX4_add_17 (fun H locs hP hD hS => ?_)
  rw [nI_clamp (show i < 2 ^ 31 by omega)] at hP hD
  rw [upI_l] at hP hD
  have hP : va_P (dC, dI) vwCl [(mo, .inr (3, [.int tv, .int (nI (2 ^ k)), .ref ma, .ref mb, .int (nI rs), .ref lo, .ref hi, .ref kp, .ref ot, .ref su])), (lo, .inl (cJ, 511, .inr (.inl (fun j => lI ((upI LW i ((LW i) + v)) j))))), (hi, .inl (cJ, 511, .inr (.inl (fun j => lI (HW j)))))] H := hP
  have hD : va_D A [(mo, .inr (3, [.int tv, .int (nI (2 ^ k)), .ref ma, .ref mb, .int (nI rs), .ref lo, .ref hi, .ref kp, .ref ot, .ref su])), (lo, .inl (cJ, 511, .inr (.inl (fun j => lI ((upI LW i ((LW i) + v)) j))))), (hi, .inl (cJ, 511, .inr (.inl (fun j => lI (HW j)))))] := hD
  refine lv_aload_n hx hb dX4_add_18 rfl (lv_at hl 1 rfl) ?_
  refine va_get (D := (dC, dI)) (ci := 3) (v := .ref lo) (C := RX4) (T := TX4) (N := 10) hx hb hts (by decide +kernel) hown hK hP 0 rfl rfl 5 (by decide) (hts (.fieldLink RX4 20 "ThreePrimesModel" "low" "[J") (by decide +kernel)) (fun _ h9 => h9) rfl dX4_add_19 ?_
  refine lv_iload_n hx hb dX4_add_22 rfl (lv_at hl 2 rfl) ?_
  refine va_lald hx hb hK hP 1 0 rfl rfl (vp_in_nI (by omega) (by omega)) dX4_add_23 ?_
  refine W.eq (g2 := F0 m _ ls [.long (lI ((upI LW i ((LW i) + v)) i))]) (by rw [nI_clamp (by omega)]) ?_
  refine W.eq (congrArg (fun z => F0 m _ ls (.long z :: _)) (show lI ((upI LW i ((LW i) + v)) i) = lI (LW i + v) from congrArg lI upI_s)) ?_
  refine lv_ldc2 (own := RX4) (v := lI (-9223372036854775808)) hx hb hown (hts (.constantLong RX4 46 (-9223372036854775808)) (by decide +kernel)) dX4_add_24 ?_
  refine lv_lxor hx hb dX4_add_27 ?_
  refine W.eq (congrArg (fun z => F0 m _ ls (.long z :: _)) (show lI (LW i + v) ^^^ lI (-9223372036854775808) = lI ((LW i + v) % 18446744073709551616 - 9223372036854775808) from lI_xmin (LW i + v))) ?_
  refine lv_lload hx hb dX4_add_28 (lv_at hl 0 rfl) ?_
  refine lv_ldc2 (own := RX4) (v := lI (-9223372036854775808)) hx hb hown (hts (.constantLong RX4 46 (-9223372036854775808)) (by decide +kernel)) dX4_add_30 ?_
  refine lv_lxor hx hb dX4_add_33 ?_
  refine W.eq (congrArg (fun z => F0 m _ ls (.long z :: _)) (show lI (LW i) ^^^ lI (-9223372036854775808) = lI ((LW i) % 18446744073709551616 - 9223372036854775808) from lI_xmin (LW i))) ?_
  refine W.lcmp hx hb dX4_add_34 ?_
  refine lv_if_ge (tgt := 42) hx hb dX4_add_35 (by decide) (fun c_1 => ?_) (fun c_1 => ?_)
  · have c_1 : ((LW i) % 18446744073709551616 - 9223372036854775808) ≤ ((LW i + v) % 18446744073709551616 - 9223372036854775808) := ((lg_cmp_ge _ _).trans (lI_le (a := (LW i) % 18446744073709551616 - 9223372036854775808) (b := (LW i + v) % 18446744073709551616 - 9223372036854775808) (by omega) (by omega) (by omega) (by omega))).mp c_1
    refine lv_iconst (v := nI 0) hx hb dX4_add_42 (by decide) ?_
    refine lv_istore (lv' := [(6, .int (nI 0)), (4, .long (lI (LW i))), (0, .ref mo), (1, .int (nI i)), (2, .long (lI v))]) hx hb dX4_add_43 hl (by decide) rfl (fun ls hl => ?_)
    refine lv_aload_n hx hb dX4_add_45 rfl (lv_at hl 2 rfl) ?_
    refine va_get (D := (dC, dI)) (ci := 3) (v := .ref hi) (C := RX4) (T := TX4) (N := 10) hx hb hts (by decide +kernel) hown hK hP 0 rfl rfl 6 (by decide) (hts (.fieldLink RX4 24 "ThreePrimesModel" "high" "[J") (by decide +kernel)) (fun _ h9 => h9) rfl dX4_add_46 ?_
    refine lv_iload_n hx hb dX4_add_49 rfl (lv_at hl 3 rfl) ?_
    refine lv_aload_n hx hb dX4_add_50 rfl (lv_at hl 2 rfl) ?_
    refine va_get (D := (dC, dI)) (ci := 3) (v := .ref hi) (C := RX4) (T := TX4) (N := 10) hx hb hts (by decide +kernel) hown hK hP 0 rfl rfl 6 (by decide) (hts (.fieldLink RX4 24 "ThreePrimesModel" "high" "[J") (by decide +kernel)) (fun _ h9 => h9) rfl dX4_add_51 ?_
    refine lv_iload_n hx hb dX4_add_54 rfl (lv_at hl 3 rfl) ?_
    refine va_lald hx hb hK hP 2 0 rfl rfl (vp_in_nI (by omega) (by omega)) dX4_add_55 ?_
    refine W.eq (g2 := F0 m _ ls [.long (lI (HW i)), .int (nI i), .ref hi]) (by rw [nI_clamp (by omega)]) ?_
    refine lv_lload_n hx hb dX4_add_56 rfl (lv_at hl 4 rfl) ?_
    refine lv_lconst (v := lI 0) hx hb dX4_add_57 (by decide) ?_
    refine W.lcmp hx hb dX4_add_58 ?_
    refine lv_if_ge (tgt := 68) hx hb dX4_add_59 (by decide) (fun c_2 => ?_) (fun c_2 => ?_)
    · have c_2 : 0 ≤ v := ((lg_cmp_ge _ _).trans (lI_le (a := 0) (b := v) (by omega) (by omega) (by omega) (by omega))).mp c_2
      refine lv_lconst (v := lI 0) hx hb dX4_add_68 (by decide) ?_
      refine lv_ladd hx hb dX4_add_69 ?_
      refine W.eq (congrArg (fun z => F0 m _ ls (.long z :: _)) (show lI (HW i) + lI 0 = lI ((HW i) + 0) from lI_add (HW i) 0)) ?_
      refine lv_iload hx hb dX4_add_70 (lv_at hl 0 rfl) ?_
      refine lv_if_eq (tgt := 79) hx hb dX4_add_72 (by decide) (fun c_3 => ?_) (fun c_3 => ?_)
      · have c_3 : 0 = 0 := (nI_eq (a := 0) (b := 0) (by omega) (by omega)).mp c_3
        refine lv_lconst (v := lI 0) hx hb dX4_add_79 (by decide) ?_
        refine lv_ladd hx hb dX4_add_80 ?_
        refine W.eq (congrArg (fun z => F0 m _ ls (.long z :: _)) (show lI ((HW i) + 0) + lI 0 = lI (((HW i) + 0) + 0) from lI_add ((HW i) + 0) 0)) ?_
        refine W.eq (congrArg (fun z => F0 m _ ls (.long z :: _)) (show lI (((HW i) + 0) + 0) = lI ((LW i + v) / 18446744073709551616) from congrArg lI (by omega))) ?_
        refine va_last hx hb hK hP hD hS 2 0 rfl rfl (vp_in_nI (by omega) (by omega)) dX4_add_81 (fun H locs hP hD hS => ?_)
        rw [nI_clamp (show i < 2 ^ 31 by omega)] at hP hD
        rw [upI_l] at hP hD
        have hP : va_P (dC, dI) vwCl [(mo, .inr (3, [.int tv, .int (nI (2 ^ k)), .ref ma, .ref mb, .int (nI rs), .ref lo, .ref hi, .ref kp, .ref ot, .ref su])), (lo, .inl (cJ, 511, .inr (.inl (fun j => lI ((upI LW i ((LW i) + v)) j))))), (hi, .inl (cJ, 511, .inr (.inl (fun j => lI ((upI HW i ((LW i + v) / 18446744073709551616)) j)))))] H := hP
        have hD : va_D A [(mo, .inr (3, [.int tv, .int (nI (2 ^ k)), .ref ma, .ref mb, .int (nI rs), .ref lo, .ref hi, .ref kp, .ref ot, .ref su])), (lo, .inl (cJ, 511, .inr (.inl (fun j => lI ((upI LW i ((LW i) + v)) j))))), (hi, .inl (cJ, 511, .inr (.inl (fun j => lI ((upI HW i ((LW i + v) / 18446744073709551616)) j)))))] := hD
        have hP9 : va_P (dC, dI) vwCl [(mo, .inr (3, [.int tv, .int (nI (2 ^ k)), .ref ma, .ref mb, .int (nI rs), .ref lo, .ref hi, .ref kp, .ref ot, .ref su])), (lo, .inl (cJ, 511, .inr (.inl (fun j => lI ((upI LW i (LW i + v)) j))))), (hi, .inl (cJ, 511, .inr (.inl (fun j => lI ((upI HW i ((LW i + v) / 18446744073709551616)) j)))))] H := hP.sub [0, 1, 2] rfl
        have hD9 : va_D A [(mo, .inr (3, [.int tv, .int (nI (2 ^ k)), .ref ma, .ref mb, .int (nI rs), .ref lo, .ref hi, .ref kp, .ref ot, .ref su])), (lo, .inl (cJ, 511, .inr (.inl (fun j => lI ((upI LW i (LW i + v)) j))))), (hi, .inl (cJ, 511, .inr (.inl (fun j => lI ((upI HW i ((LW i + v) / 18446744073709551616)) j)))))] := hD.sub [0, 1, 2] (by decide) rfl
        exact W.vret hx hb hr (fun tq9 ht hW => ⟨⟨(), rfl, trivial, by rw [ht]; exact hP9, hD9⟩, hS.F ht⟩) hS.2.2 dX4_add_82
      · have c_3 : ¬ (0 = 0) := fun zq9 => c_3 ((nI_eq (a := 0) (b := 0) (by omega) (by omega)).mpr zq9)
        omega
    · have c_2 : ¬ (0 ≤ v) := fun zq9 => c_2 (((lg_cmp_ge _ _).trans (lI_le (a := 0) (b := v) (by omega) (by omega) (by omega) (by omega))).mpr zq9)
      refine lv_ldc2 (own := RX4) (v := lI (-1)) hx hb hown (hts (.constantLong RX4 48 (-1)) (by decide +kernel)) dX4_add_62 ?_
      refine lv_goto (tgt := 69) hx hb dX4_add_65 (by decide) ?_
      refine lv_ladd hx hb dX4_add_69 ?_
      refine W.eq (congrArg (fun z => F0 m _ ls (.long z :: _)) (show lI (HW i) + lI (-1) = lI ((HW i) + (-1)) from lI_add (HW i) (-1))) ?_
      refine lv_iload hx hb dX4_add_70 (lv_at hl 0 rfl) ?_
      refine lv_if_eq (tgt := 79) hx hb dX4_add_72 (by decide) (fun c_4 => ?_) (fun c_4 => ?_)
      · have c_4 : 0 = 0 := (nI_eq (a := 0) (b := 0) (by omega) (by omega)).mp c_4
        refine lv_lconst (v := lI 0) hx hb dX4_add_79 (by decide) ?_
        refine lv_ladd hx hb dX4_add_80 ?_
        refine W.eq (congrArg (fun z => F0 m _ ls (.long z :: _)) (show lI ((HW i) + (-1)) + lI 0 = lI (((HW i) + (-1)) + 0) from lI_add ((HW i) + (-1)) 0)) ?_
        refine W.eq (congrArg (fun z => F0 m _ ls (.long z :: _)) (show lI (((HW i) + (-1)) + 0) = lI ((LW i + v) / 18446744073709551616) from congrArg lI (by omega))) ?_
        refine va_last hx hb hK hP hD hS 2 0 rfl rfl (vp_in_nI (by omega) (by omega)) dX4_add_81 (fun H locs hP hD hS => ?_)
        rw [nI_clamp (show i < 2 ^ 31 by omega)] at hP hD
        rw [upI_l] at hP hD
        have hP : va_P (dC, dI) vwCl [(mo, .inr (3, [.int tv, .int (nI (2 ^ k)), .ref ma, .ref mb, .int (nI rs), .ref lo, .ref hi, .ref kp, .ref ot, .ref su])), (lo, .inl (cJ, 511, .inr (.inl (fun j => lI ((upI LW i ((LW i) + v)) j))))), (hi, .inl (cJ, 511, .inr (.inl (fun j => lI ((upI HW i ((LW i + v) / 18446744073709551616)) j)))))] H := hP
        have hD : va_D A [(mo, .inr (3, [.int tv, .int (nI (2 ^ k)), .ref ma, .ref mb, .int (nI rs), .ref lo, .ref hi, .ref kp, .ref ot, .ref su])), (lo, .inl (cJ, 511, .inr (.inl (fun j => lI ((upI LW i ((LW i) + v)) j))))), (hi, .inl (cJ, 511, .inr (.inl (fun j => lI ((upI HW i ((LW i + v) / 18446744073709551616)) j)))))] := hD
        have hP9 : va_P (dC, dI) vwCl [(mo, .inr (3, [.int tv, .int (nI (2 ^ k)), .ref ma, .ref mb, .int (nI rs), .ref lo, .ref hi, .ref kp, .ref ot, .ref su])), (lo, .inl (cJ, 511, .inr (.inl (fun j => lI ((upI LW i (LW i + v)) j))))), (hi, .inl (cJ, 511, .inr (.inl (fun j => lI ((upI HW i ((LW i + v) / 18446744073709551616)) j)))))] H := hP.sub [0, 1, 2] rfl
        have hD9 : va_D A [(mo, .inr (3, [.int tv, .int (nI (2 ^ k)), .ref ma, .ref mb, .int (nI rs), .ref lo, .ref hi, .ref kp, .ref ot, .ref su])), (lo, .inl (cJ, 511, .inr (.inl (fun j => lI ((upI LW i (LW i + v)) j))))), (hi, .inl (cJ, 511, .inr (.inl (fun j => lI ((upI HW i ((LW i + v) / 18446744073709551616)) j)))))] := hD.sub [0, 1, 2] (by decide) rfl
        exact W.vret hx hb hr (fun tq9 ht hW => ⟨⟨(), rfl, trivial, by rw [ht]; exact hP9, hD9⟩, hS.F ht⟩) hS.2.2 dX4_add_82
      · have c_4 : ¬ (0 = 0) := fun zq9 => c_4 ((nI_eq (a := 0) (b := 0) (by omega) (by omega)).mpr zq9)
        omega
  · have c_1 : ¬ (((LW i) % 18446744073709551616 - 9223372036854775808) ≤ ((LW i + v) % 18446744073709551616 - 9223372036854775808)) := fun zq9 => c_1 (((lg_cmp_ge _ _).trans (lI_le (a := (LW i) % 18446744073709551616 - 9223372036854775808) (b := (LW i + v) % 18446744073709551616 - 9223372036854775808) (by omega) (by omega) (by omega) (by omega))).mpr zq9)
    refine lv_iconst (v := nI 1) hx hb dX4_add_38 (by decide) ?_
    refine lv_goto (tgt := 43) hx hb dX4_add_39 (by decide) ?_
    refine lv_istore (lv' := [(6, .int (nI 1)), (4, .long (lI (LW i))), (0, .ref mo), (1, .int (nI i)), (2, .long (lI v))]) hx hb dX4_add_43 hl (by decide) rfl (fun ls hl => ?_)
    refine lv_aload_n hx hb dX4_add_45 rfl (lv_at hl 2 rfl) ?_
    refine va_get (D := (dC, dI)) (ci := 3) (v := .ref hi) (C := RX4) (T := TX4) (N := 10) hx hb hts (by decide +kernel) hown hK hP 0 rfl rfl 6 (by decide) (hts (.fieldLink RX4 24 "ThreePrimesModel" "high" "[J") (by decide +kernel)) (fun _ h9 => h9) rfl dX4_add_46 ?_
    refine lv_iload_n hx hb dX4_add_49 rfl (lv_at hl 3 rfl) ?_
    refine lv_aload_n hx hb dX4_add_50 rfl (lv_at hl 2 rfl) ?_
    refine va_get (D := (dC, dI)) (ci := 3) (v := .ref hi) (C := RX4) (T := TX4) (N := 10) hx hb hts (by decide +kernel) hown hK hP 0 rfl rfl 6 (by decide) (hts (.fieldLink RX4 24 "ThreePrimesModel" "high" "[J") (by decide +kernel)) (fun _ h9 => h9) rfl dX4_add_51 ?_
    refine lv_iload_n hx hb dX4_add_54 rfl (lv_at hl 3 rfl) ?_
    refine va_lald hx hb hK hP 2 0 rfl rfl (vp_in_nI (by omega) (by omega)) dX4_add_55 ?_
    refine W.eq (g2 := F0 m _ ls [.long (lI (HW i)), .int (nI i), .ref hi]) (by rw [nI_clamp (by omega)]) ?_
    refine lv_lload_n hx hb dX4_add_56 rfl (lv_at hl 4 rfl) ?_
    refine lv_lconst (v := lI 0) hx hb dX4_add_57 (by decide) ?_
    refine W.lcmp hx hb dX4_add_58 ?_
    refine lv_if_ge (tgt := 68) hx hb dX4_add_59 (by decide) (fun c_5 => ?_) (fun c_5 => ?_)
    · have c_5 : 0 ≤ v := ((lg_cmp_ge _ _).trans (lI_le (a := 0) (b := v) (by omega) (by omega) (by omega) (by omega))).mp c_5
      refine lv_lconst (v := lI 0) hx hb dX4_add_68 (by decide) ?_
      refine lv_ladd hx hb dX4_add_69 ?_
      refine W.eq (congrArg (fun z => F0 m _ ls (.long z :: _)) (show lI (HW i) + lI 0 = lI ((HW i) + 0) from lI_add (HW i) 0)) ?_
      refine lv_iload hx hb dX4_add_70 (lv_at hl 0 rfl) ?_
      refine lv_if_eq (tgt := 79) hx hb dX4_add_72 (by decide) (fun c_6 => ?_) (fun c_6 => ?_)
      · have c_6 : 1 = 0 := (nI_eq (a := 1) (b := 0) (by omega) (by omega)).mp c_6
        omega
      · have c_6 : ¬ (1 = 0) := fun zq9 => c_6 ((nI_eq (a := 1) (b := 0) (by omega) (by omega)).mpr zq9)
        refine lv_lconst (v := lI 1) hx hb dX4_add_75 (by decide) ?_
        refine lv_goto (tgt := 80) hx hb dX4_add_76 (by decide) ?_
        refine lv_ladd hx hb dX4_add_80 ?_
        refine W.eq (congrArg (fun z => F0 m _ ls (.long z :: _)) (show lI ((HW i) + 0) + lI 1 = lI (((HW i) + 0) + 1) from lI_add ((HW i) + 0) 1)) ?_
        refine W.eq (congrArg (fun z => F0 m _ ls (.long z :: _)) (show lI (((HW i) + 0) + 1) = lI ((LW i + v) / 18446744073709551616) from congrArg lI (by omega))) ?_
        refine va_last hx hb hK hP hD hS 2 0 rfl rfl (vp_in_nI (by omega) (by omega)) dX4_add_81 (fun H locs hP hD hS => ?_)
        rw [nI_clamp (show i < 2 ^ 31 by omega)] at hP hD
        rw [upI_l] at hP hD
        have hP : va_P (dC, dI) vwCl [(mo, .inr (3, [.int tv, .int (nI (2 ^ k)), .ref ma, .ref mb, .int (nI rs), .ref lo, .ref hi, .ref kp, .ref ot, .ref su])), (lo, .inl (cJ, 511, .inr (.inl (fun j => lI ((upI LW i ((LW i) + v)) j))))), (hi, .inl (cJ, 511, .inr (.inl (fun j => lI ((upI HW i ((LW i + v) / 18446744073709551616)) j)))))] H := hP
        have hD : va_D A [(mo, .inr (3, [.int tv, .int (nI (2 ^ k)), .ref ma, .ref mb, .int (nI rs), .ref lo, .ref hi, .ref kp, .ref ot, .ref su])), (lo, .inl (cJ, 511, .inr (.inl (fun j => lI ((upI LW i ((LW i) + v)) j))))), (hi, .inl (cJ, 511, .inr (.inl (fun j => lI ((upI HW i ((LW i + v) / 18446744073709551616)) j)))))] := hD
        have hP9 : va_P (dC, dI) vwCl [(mo, .inr (3, [.int tv, .int (nI (2 ^ k)), .ref ma, .ref mb, .int (nI rs), .ref lo, .ref hi, .ref kp, .ref ot, .ref su])), (lo, .inl (cJ, 511, .inr (.inl (fun j => lI ((upI LW i (LW i + v)) j))))), (hi, .inl (cJ, 511, .inr (.inl (fun j => lI ((upI HW i ((LW i + v) / 18446744073709551616)) j)))))] H := hP.sub [0, 1, 2] rfl
        have hD9 : va_D A [(mo, .inr (3, [.int tv, .int (nI (2 ^ k)), .ref ma, .ref mb, .int (nI rs), .ref lo, .ref hi, .ref kp, .ref ot, .ref su])), (lo, .inl (cJ, 511, .inr (.inl (fun j => lI ((upI LW i (LW i + v)) j))))), (hi, .inl (cJ, 511, .inr (.inl (fun j => lI ((upI HW i ((LW i + v) / 18446744073709551616)) j)))))] := hD.sub [0, 1, 2] (by decide) rfl
        exact W.vret hx hb hr (fun tq9 ht hW => ⟨⟨(), rfl, trivial, by rw [ht]; exact hP9, hD9⟩, hS.F ht⟩) hS.2.2 dX4_add_82
    · have c_5 : ¬ (0 ≤ v) := fun zq9 => c_5 (((lg_cmp_ge _ _).trans (lI_le (a := 0) (b := v) (by omega) (by omega) (by omega) (by omega))).mpr zq9)
      refine lv_ldc2 (own := RX4) (v := lI (-1)) hx hb hown (hts (.constantLong RX4 48 (-1)) (by decide +kernel)) dX4_add_62 ?_
      refine lv_goto (tgt := 69) hx hb dX4_add_65 (by decide) ?_
      refine lv_ladd hx hb dX4_add_69 ?_
      refine W.eq (congrArg (fun z => F0 m _ ls (.long z :: _)) (show lI (HW i) + lI (-1) = lI ((HW i) + (-1)) from lI_add (HW i) (-1))) ?_
      refine lv_iload hx hb dX4_add_70 (lv_at hl 0 rfl) ?_
      refine lv_if_eq (tgt := 79) hx hb dX4_add_72 (by decide) (fun c_7 => ?_) (fun c_7 => ?_)
      · have c_7 : 1 = 0 := (nI_eq (a := 1) (b := 0) (by omega) (by omega)).mp c_7
        omega
      · have c_7 : ¬ (1 = 0) := fun zq9 => c_7 ((nI_eq (a := 1) (b := 0) (by omega) (by omega)).mpr zq9)
        refine lv_lconst (v := lI 1) hx hb dX4_add_75 (by decide) ?_
        refine lv_goto (tgt := 80) hx hb dX4_add_76 (by decide) ?_
        refine lv_ladd hx hb dX4_add_80 ?_
        refine W.eq (congrArg (fun z => F0 m _ ls (.long z :: _)) (show lI ((HW i) + (-1)) + lI 1 = lI (((HW i) + (-1)) + 1) from lI_add ((HW i) + (-1)) 1)) ?_
        refine W.eq (congrArg (fun z => F0 m _ ls (.long z :: _)) (show lI (((HW i) + (-1)) + 1) = lI ((LW i + v) / 18446744073709551616) from congrArg lI (by omega))) ?_
        refine va_last hx hb hK hP hD hS 2 0 rfl rfl (vp_in_nI (by omega) (by omega)) dX4_add_81 (fun H locs hP hD hS => ?_)
        rw [nI_clamp (show i < 2 ^ 31 by omega)] at hP hD
        rw [upI_l] at hP hD
        have hP : va_P (dC, dI) vwCl [(mo, .inr (3, [.int tv, .int (nI (2 ^ k)), .ref ma, .ref mb, .int (nI rs), .ref lo, .ref hi, .ref kp, .ref ot, .ref su])), (lo, .inl (cJ, 511, .inr (.inl (fun j => lI ((upI LW i ((LW i) + v)) j))))), (hi, .inl (cJ, 511, .inr (.inl (fun j => lI ((upI HW i ((LW i + v) / 18446744073709551616)) j)))))] H := hP
        have hD : va_D A [(mo, .inr (3, [.int tv, .int (nI (2 ^ k)), .ref ma, .ref mb, .int (nI rs), .ref lo, .ref hi, .ref kp, .ref ot, .ref su])), (lo, .inl (cJ, 511, .inr (.inl (fun j => lI ((upI LW i ((LW i) + v)) j))))), (hi, .inl (cJ, 511, .inr (.inl (fun j => lI ((upI HW i ((LW i + v) / 18446744073709551616)) j)))))] := hD
        have hP9 : va_P (dC, dI) vwCl [(mo, .inr (3, [.int tv, .int (nI (2 ^ k)), .ref ma, .ref mb, .int (nI rs), .ref lo, .ref hi, .ref kp, .ref ot, .ref su])), (lo, .inl (cJ, 511, .inr (.inl (fun j => lI ((upI LW i (LW i + v)) j))))), (hi, .inl (cJ, 511, .inr (.inl (fun j => lI ((upI HW i ((LW i + v) / 18446744073709551616)) j)))))] H := hP.sub [0, 1, 2] rfl
        have hD9 : va_D A [(mo, .inr (3, [.int tv, .int (nI (2 ^ k)), .ref ma, .ref mb, .int (nI rs), .ref lo, .ref hi, .ref kp, .ref ot, .ref su])), (lo, .inl (cJ, 511, .inr (.inl (fun j => lI ((upI LW i (LW i + v)) j))))), (hi, .inl (cJ, 511, .inr (.inl (fun j => lI ((upI HW i ((LW i + v) / 18446744073709551616)) j)))))] := hD.sub [0, 1, 2] (by decide) rfl
        exact W.vret hx hb hr (fun tq9 ht hW => ⟨⟨(), rfl, trivial, by rw [ht]; exact hP9, hD9⟩, hS.F ht⟩) hS.2.2 dX4_add_82

abbrev q_X4_fold_0 (dC : Nat → ClassId) (dI : Nat → Nat → Nat) (mo ma mb lo hi kp ot su k rs : Nat) (tv : Int32) (cI cJ : ClassId) (fa fb : Nat → Int32) (LW HW : Nat → Int) (A : Nat → Prop) : Array Value → State → Outcome → State → Prop := va_Qi (fun (r : Int32) (u : Nat → Int) => r = nI (cntK 0 k) ∧ ∀ i, i < cntK 0 k → u i = acc (zrL LW (cntK 0 k)) 0 (2 ^ k) fa fb (2 ^ k) i / 18446744073709551616) (fun u t => va_P (dC, dI) vwCl [(mo, .inr (3, [.int (nI 0), .int (nI (2 ^ k)), .ref ma, .ref mb, .int (nI (cntK 0 k)), .ref lo, .ref hi, .ref kp, .ref ot, .ref su])), (ma, .inl (cI, 256, .inl fa)), (mb, .inl (cI, 256, .inl fb)), (lo, .inl (cJ, 511, .inr (.inl (fun j => lI ((acc (zrL LW (cntK 0 k)) 0 (2 ^ k) fa fb (2 ^ k)) j))))), (hi, .inl (cJ, 511, .inr (.inl (fun j => lI (u j)))))] t.heap ∧ va_D A [(mo, .inr (3, [.int (nI 0), .int (nI (2 ^ k)), .ref ma, .ref mb, .int (nI (cntK 0 k)), .ref lo, .ref hi, .ref kp, .ref ot, .ref su])), (ma, .inl (cI, 256, .inl fa)), (mb, .inl (cI, 256, .inl fb)), (lo, .inl (cJ, 511, .inr (.inl (fun j => lI ((acc (zrL LW (cntK 0 k)) 0 (2 ^ k) fa fb (2 ^ k)) j))))), (hi, .inl (cJ, 511, .inr (.inl (fun j => lI (u j)))))]) A
set_option maxHeartbeats 4000000 in
set_option maxRecDepth 100000 in
theorem c_X4_fold_0 (l : Launch) (dC : Nat → ClassId) (dI : Nat → Nat → Nat) (mo ma mb lo hi kp ot su k rs : Nat) (tv : Int32) (cI cJ : ClassId) (fa fb : Nat → Int32) (LW HW : Nat → Int) (sz : Nat) (zk1 : 1 ≤ k) (zk : k ≤ 8) : Met l yX4_fold wsX4_fold ({ frames := 1, cells := 0, slots := 0, locals := 26 }) (va_Pc [.ref mo, .int (nI 0)] (fun U => U.heap.size = sz ∧ va_P (dC, dI) vwCl [(mo, .inr (3, [.int tv, .int (nI (2 ^ k)), .ref ma, .ref mb, .int (nI rs), .ref lo, .ref hi, .ref kp, .ref ot, .ref su])), (ma, .inl (cI, 256, .inl fa)), (mb, .inl (cI, 256, .inl fb)), (lo, .inl (cJ, 511, .inr (.inl (fun j => lI (LW j))))), (hi, .inl (cJ, 511, .inr (.inl (fun j => lI (HW j)))))] U.heap ∧ va_K (dC, dI) vwCl [(cI, .int), (cJ, .long)] U ∧ va_D (fun _ => True) [(mo, .inr (3, [.int tv, .int (nI (2 ^ k)), .ref ma, .ref mb, .int (nI rs), .ref lo, .ref hi, .ref kp, .ref ot, .ref su])), (ma, .inl (cI, 256, .inl fa)), (mb, .inl (cI, 256, .inl fb)), (lo, .inl (cJ, 511, .inr (.inl (fun j => lI (LW j))))), (hi, .inl (cJ, 511, .inr (.inl (fun j => lI (HW j)))))])) (q_X4_fold_0 dC dI mo ma mb lo hi kp ot su k rs tv cI cJ fa fb LW HW (va_A [(mo, .inr (3, [.int tv, .int (nI (2 ^ k)), .ref ma, .ref mb, .int (nI rs), .ref lo, .ref hi, .ref kp, .ref ot, .ref su])), (ma, .inl (cI, 256, .inl fa)), (mb, .inl (cI, 256, .inl fb)), (lo, .inl (cJ, 511, .inr (.inl (fun j => lI (LW j))))), (hi, .inl (cJ, 511, .inr (.inl (fun j => lI (HW j)))))] sz)) 0 0 (va_A [(mo, .inr (3, [.int tv, .int (nI (2 ^ k)), .ref ma, .ref mb, .int (nI rs), .ref lo, .ref hi, .ref kp, .ref ot, .ref su])), (ma, .inl (cI, 256, .inl fa)), (mb, .inl (cI, 256, .inl fb)), (lo, .inl (cJ, 511, .inr (.inl (fun j => lI (LW j))))), (hi, .inl (cJ, 511, .inr (.inl (fun j => lI (HW j)))))] sz) := by
  refine Met.ofW (cc := cX4_fold) (maxL := 7) (ret := (some .int)) (by decide) rfl ?_
  intro p e s m args below meth c s₁ B hml hv
  obtain ⟨rfl, hsz, hP, hK, hD0⟩ := hv
  have hx := B.exec
  have hb := B.bytes
  have hr := B.returns
  have hts := atoms_spec (ws := wsX4_fold) B.pre
  have hown : s.vm.findClass RX4 = some m.cls := findClass_of_methodNamed B.named
  have hlocks := B.notSynchronized
  subst hsz
  have hD := hD0.self (sz := s.heap.size)
  generalize hAe : va_A [(mo, .inr (3, [.int tv, .int (nI (2 ^ k)), .ref ma, .ref mb, .int (nI rs), .ref lo, .ref hi, .ref kp, .ref ot, .ref su])), (ma, .inl (cI, 256, .inl fa)), (mb, .inl (cI, 256, .inl fb)), (lo, .inl (cJ, 511, .inr (.inl (fun j => lI (LW j))))), (hi, .inl (cJ, 511, .inr (.inl (fun j => lI (HW j)))))] s.heap.size = A at hD ⊢
  have hA : ∀ q : Nat, s.heap.size ≤ q → A q := fun q h => by rw [← hAe]; exact Or.inr h
  have hS : va_S A s.heap s.heap [] := va_S.rf
  have hP : va_P (dC, dI) vwCl [(mo, .inr (3, [.int tv, .int (nI (2 ^ k)), .ref ma, .ref mb, .int (nI rs), .ref lo, .ref hi, .ref kp, .ref ot, .ref su])), (ma, .inl (cI, 256, .inl fa)), (mb, .inl (cI, 256, .inl fb)), (lo, .inl (cJ, 511, .inr (.inl (fun j => lI (LW j))))), (hi, .inl (cJ, 511, .inr (.inl (fun j => lI (HW j)))))] s.heap := hP
  have hl := lv_entry (([.ref mo, .int (nI 0)] : List Value)) (n := 7) (Nat.le_of_ble_eq_true rfl)
  rw [lg_entry_eq]
  generalize (lg_sl (([.ref mo, .int (nI 0)] : List Value)) ++ List.replicate (7 - (lg_sl (([.ref mo, .int (nI 0)] : List Value))).length) Slot.unset).toArray = ls at hl ⊢
  have hl : lv_has ls 7 [(0, .ref mo), (1, .int (nI 0))] := hl
  obtain ⟨H, hHe⟩ : ∃ H : Heap, H = s.heap := ⟨_, rfl⟩
  rw [← hHe] at hP
  have hS : va_S A s.heap H [] := by rw [hHe]; exact hS
  obtain ⟨locs, hlo⟩ : ∃ L : List Loc, L = [] := ⟨_, rfl⟩
  rw [← hlo] at hS ⊢
  rw [← hHe]
  have hpk := pw8 zk
  refine lv_aload_n hx hb dX4_fold_0 rfl (lv_at hl 0 rfl) ?_
  refine lv_iload_n hx hb dX4_fold_1 rfl (lv_at hl 1 rfl) ?_
  refine lv_if_lt (tgt := 10) hx hb dX4_fold_2 (by decide) (fun c_1 => ?_) (fun c_1 => ?_)
  · have c_1 : 0 < 0 := (nI_ltI (a := 0) (b := 0) (by omega) (by omega)).mp c_1
    omega
  · have c_1 : ¬ (0 < 0) := fun zq9 => c_1 ((nI_ltI (a := 0) (b := 0) (by omega) (by omega)).mpr zq9)
    refine lv_iload_n hx hb dX4_fold_5 rfl (lv_at hl 1 rfl) ?_
    refine lv_iconst (v := nI 2) hx hb dX4_fold_6 (by decide) ?_
    refine lv_icmp_le (tgt := 14) hx hb dX4_fold_7 (by decide) (fun c_2 => ?_) (fun c_2 => ?_)
    · have c_2 : 0 ≤ 2 := (nI_leI (a := 0) (b := 2) (by omega) (by omega)).mp c_2
      refine lv_iconst (v := nI 0) hx hb dX4_fold_14 (by decide) ?_
      refine va_put (D := (dC, dI)) (ci := 3) (v := .int (nI 0)) (ty := .int) (C := RX4) (T := TX4) (N := 10) hx hb hts (by decide +kernel) tyX4 tyX4_ok nmX4 hown hK hP hD hS 0 rfl rfl 0 (by decide) (hts (.fieldLink RX4 36 "ThreePrimesModel" "thrown" "I") (by decide +kernel)) (fun _ h9 => h9) rfl (by decide +kernel) rfl rfl (Nat.le_of_ble_eq_true rfl) dX4_fold_15 (fun H locs hP hD hS => ?_)
      have hP : va_P (dC, dI) vwCl [(mo, .inr (3, [.int (nI 0), .int (nI (2 ^ k)), .ref ma, .ref mb, .int (nI rs), .ref lo, .ref hi, .ref kp, .ref ot, .ref su])), (ma, .inl (cI, 256, .inl fa)), (mb, .inl (cI, 256, .inl fb)), (lo, .inl (cJ, 511, .inr (.inl (fun j => lI (LW j))))), (hi, .inl (cJ, 511, .inr (.inl (fun j => lI (HW j)))))] H := hP
      have hD : va_D A [(mo, .inr (3, [.int (nI 0), .int (nI (2 ^ k)), .ref ma, .ref mb, .int (nI rs), .ref lo, .ref hi, .ref kp, .ref ot, .ref su])), (ma, .inl (cI, 256, .inl fa)), (mb, .inl (cI, 256, .inl fb)), (lo, .inl (cJ, 511, .inr (.inl (fun j => lI (LW j))))), (hi, .inl (cJ, 511, .inr (.inl (fun j => lI (HW j)))))] := hD
      refine lv_aload_n hx hb dX4_fold_18 rfl (lv_at hl 0 rfl) ?_
      refine va_get (D := (dC, dI)) (ci := 3) (v := .int (nI 0)) (C := RX4) (T := TX4) (N := 10) hx hb hts (by decide +kernel) hown hK hP 0 rfl rfl 0 (by decide) (hts (.fieldLink RX4 36 "ThreePrimesModel" "thrown" "I") (by decide +kernel)) (fun _ h9 => h9) rfl dX4_fold_19 ?_
      refine lv_if_le (tgt := 27) hx hb dX4_fold_22 (by decide) (fun c_3 => ?_) (fun c_3 => ?_)
      · have c_3 : 0 ≤ 0 := (nI_leI (a := 0) (b := 0) (by omega) (by omega)).mp c_3
        refine lv_aload_n hx hb dX4_fold_27 rfl (lv_at hl 0 rfl) ?_
        refine lv_iload_n hx hb dX4_fold_28 rfl (lv_at hl 1 rfl) ?_
        refine lv_iconst (v := nI 2) hx hb dX4_fold_29 (by decide) ?_
        refine lv_icmp_ne (tgt := 44) hx hb dX4_fold_30 (by decide) (fun c_4 => ?_) (fun c_4 => ?_)
        · have c_4 : ¬ (0 = 2) := fun zq9 => c_4 ((nI_eq (a := 0) (b := 2) (by omega) (by omega)).mpr zq9)
          refine lv_aload_n hx hb dX4_fold_44 rfl (lv_at hl 0 rfl) ?_
          refine va_get (D := (dC, dI)) (ci := 3) (v := .int (nI (2 ^ k))) (C := RX4) (T := TX4) (N := 10) hx hb hts (by decide +kernel) hown hK hP 0 rfl rfl 1 (by decide) (hts (.fieldLink RX4 7 "ThreePrimesModel" "n" "I") (by decide +kernel)) (fun _ h9 => h9) rfl dX4_fold_45 ?_
          refine va_put (D := (dC, dI)) (ci := 3) (v := .int (nI (2 ^ k))) (ty := .int) (C := RX4) (T := TX4) (N := 10) hx hb hts (by decide +kernel) tyX4 tyX4_ok nmX4 hown hK hP hD hS 0 rfl rfl 4 (by decide) (hts (.fieldLink RX4 39 "ThreePrimesModel" "results" "I") (by decide +kernel)) (fun _ h9 => h9) rfl (by decide +kernel) rfl rfl (Nat.le_of_ble_eq_true rfl) dX4_fold_48 (fun H locs hP hD hS => ?_)
          have hP : va_P (dC, dI) vwCl [(mo, .inr (3, [.int (nI 0), .int (nI (2 ^ k)), .ref ma, .ref mb, .int (nI (2 ^ k)), .ref lo, .ref hi, .ref kp, .ref ot, .ref su])), (ma, .inl (cI, 256, .inl fa)), (mb, .inl (cI, 256, .inl fb)), (lo, .inl (cJ, 511, .inr (.inl (fun j => lI (LW j))))), (hi, .inl (cJ, 511, .inr (.inl (fun j => lI (HW j)))))] H := hP
          have hD : va_D A [(mo, .inr (3, [.int (nI 0), .int (nI (2 ^ k)), .ref ma, .ref mb, .int (nI (2 ^ k)), .ref lo, .ref hi, .ref kp, .ref ot, .ref su])), (ma, .inl (cI, 256, .inl fa)), (mb, .inl (cI, 256, .inl fb)), (lo, .inl (cJ, 511, .inr (.inl (fun j => lI (LW j))))), (hi, .inl (cJ, 511, .inr (.inl (fun j => lI (HW j)))))] := hD
          refine lv_iconst (v := nI 0) hx hb dX4_fold_51 (by decide) ?_
          rw [show LW = zrL LW 0 from (zrL_0 _).symm] at hP hD
          have hP : va_P (dC, dI) vwCl [(mo, .inr (3, [.int (nI 0), .int (nI (2 ^ k)), .ref ma, .ref mb, .int (nI (2 ^ k)), .ref lo, .ref hi, .ref kp, .ref ot, .ref su])), (ma, .inl (cI, 256, .inl fa)), (mb, .inl (cI, 256, .inl fb)), (lo, .inl (cJ, 511, .inr (.inl (fun j => lI ((zrL LW 0) j))))), (hi, .inl (cJ, 511, .inr (.inl (fun j => lI (HW j)))))] H := hP
          have hD : va_D A [(mo, .inr (3, [.int (nI 0), .int (nI (2 ^ k)), .ref ma, .ref mb, .int (nI (2 ^ k)), .ref lo, .ref hi, .ref kp, .ref ot, .ref su])), (ma, .inl (cI, 256, .inl fa)), (mb, .inl (cI, 256, .inl fb)), (lo, .inl (cJ, 511, .inr (.inl (fun j => lI ((zrL LW 0) j))))), (hi, .inl (cJ, 511, .inr (.inl (fun j => lI (HW j)))))] := hD
          rw [show HW = zrL HW 0 from (zrL_0 _).symm] at hP hD
          have hP : va_P (dC, dI) vwCl [(mo, .inr (3, [.int (nI 0), .int (nI (2 ^ k)), .ref ma, .ref mb, .int (nI (2 ^ k)), .ref lo, .ref hi, .ref kp, .ref ot, .ref su])), (ma, .inl (cI, 256, .inl fa)), (mb, .inl (cI, 256, .inl fb)), (lo, .inl (cJ, 511, .inr (.inl (fun j => lI ((zrL LW 0) j))))), (hi, .inl (cJ, 511, .inr (.inl (fun j => lI ((zrL HW 0) j)))))] H := hP
          have hD : va_D A [(mo, .inr (3, [.int (nI 0), .int (nI (2 ^ k)), .ref ma, .ref mb, .int (nI (2 ^ k)), .ref lo, .ref hi, .ref kp, .ref ot, .ref su])), (ma, .inl (cI, 256, .inl fa)), (mb, .inl (cI, 256, .inl fb)), (lo, .inl (cJ, 511, .inr (.inl (fun j => lI ((zrL LW 0) j))))), (hi, .inl (cJ, 511, .inr (.inl (fun j => lI ((zrL HW 0) j)))))] := hD
          refine lv_istore_n (lv' := [(2, .int (nI 0)), (0, .ref mo), (1, .int (nI 0))]) hx hb dX4_fold_52 rfl hl (by decide) rfl (fun ls hl => ?_)
          have key_53 : ∀ (fuel : Nat) (t : Nat), (t ≤ 2 ^ k) → (2 ^ k - t < fuel) → ∀ (H : Heap) (locs : List Loc) (ls : Array Slot), va_P (dC, dI) vwCl [(mo, .inr (3, [.int (nI 0), .int (nI (2 ^ k)), .ref ma, .ref mb, .int (nI (2 ^ k)), .ref lo, .ref hi, .ref kp, .ref ot, .ref su])), (ma, .inl (cI, 256, .inl fa)), (mb, .inl (cI, 256, .inl fb)), (lo, .inl (cJ, 511, .inr (.inl (fun j => lI ((zrL LW t) j))))), (hi, .inl (cJ, 511, .inr (.inl (fun j => lI ((zrL HW t) j)))))] H → va_D A [(mo, .inr (3, [.int (nI 0), .int (nI (2 ^ k)), .ref ma, .ref mb, .int (nI (2 ^ k)), .ref lo, .ref hi, .ref kp, .ref ot, .ref su])), (ma, .inl (cI, 256, .inl fa)), (mb, .inl (cI, 256, .inl fb)), (lo, .inl (cJ, 511, .inr (.inl (fun j => lI ((zrL LW t) j))))), (hi, .inl (cJ, 511, .inr (.inl (fun j => lI ((zrL HW t) j)))))] → va_S A s.heap H locs → lv_has ls 7 [(2, .int (nI t)), (1, .int (nI 0)), (0, .ref mo)] → W p l e (headSpec wsX4_fold { frames := 1, cells := 0, slots := 0, locals := 26 }).room s m ([.ref mo, .int (nI 0)] : List Value).toArray below meth c H locs 0 0 (MQ below (q_X4_fold_0 dC dI mo ma mb lo hi kp ot su k rs tv cI cJ fa fb LW HW  A) ([.ref mo, .int (nI 0)] : List Value).toArray s 0 0 A) (F0 m 53 ls []) := by
            intro fuel
            induction fuel with
            | zero => intro t; intros; omega
            | succ fuel ih_53 =>
              intro t ht hfu H locs ls hP hD hS hl
              refine lv_iload_n hx hb dX4_fold_53 rfl (lv_at hl 0 rfl) ?_
              refine lv_aload_n hx hb dX4_fold_54 rfl (lv_at hl 2 rfl) ?_
              refine va_get (D := (dC, dI)) (ci := 3) (v := .int (nI (2 ^ k))) (C := RX4) (T := TX4) (N := 10) hx hb hts (by decide +kernel) hown hK hP 0 rfl rfl 4 (by decide) (hts (.fieldLink RX4 39 "ThreePrimesModel" "results" "I") (by decide +kernel)) (fun _ h9 => h9) rfl dX4_fold_55 ?_
              refine lv_icmp_ge (tgt := 81) hx hb dX4_fold_58 (by decide) (fun c_5 => ?_) (fun c_5 => ?_)
              · have c_5 : 2 ^ k ≤ t := (nI_leI (a := 2 ^ k) (b := t) (by omega) (by omega)).mp c_5
                refine lv_iconst (v := nI 0) hx hb dX4_fold_81 (by decide) ?_
                rw [show zrL LW t = acc (zrL LW (2 ^ k)) 0 (2 ^ k) fa fb 0 from by rw [show t = 2 ^ k by omega]; rfl] at hP hD
                have hP : va_P (dC, dI) vwCl [(mo, .inr (3, [.int (nI 0), .int (nI (2 ^ k)), .ref ma, .ref mb, .int (nI (2 ^ k)), .ref lo, .ref hi, .ref kp, .ref ot, .ref su])), (ma, .inl (cI, 256, .inl fa)), (mb, .inl (cI, 256, .inl fb)), (lo, .inl (cJ, 511, .inr (.inl (fun j => lI ((acc (zrL LW (2 ^ k)) 0 (2 ^ k) fa fb 0) j))))), (hi, .inl (cJ, 511, .inr (.inl (fun j => lI ((zrL HW t) j)))))] H := hP
                have hD : va_D A [(mo, .inr (3, [.int (nI 0), .int (nI (2 ^ k)), .ref ma, .ref mb, .int (nI (2 ^ k)), .ref lo, .ref hi, .ref kp, .ref ot, .ref su])), (ma, .inl (cI, 256, .inl fa)), (mb, .inl (cI, 256, .inl fb)), (lo, .inl (cJ, 511, .inr (.inl (fun j => lI ((acc (zrL LW (2 ^ k)) 0 (2 ^ k) fa fb 0) j))))), (hi, .inl (cJ, 511, .inr (.inl (fun j => lI ((zrL HW t) j)))))] := hD
                rw [show zrL HW t = zrL HW (2 ^ k) from by rw [show t = 2 ^ k by omega]] at hP hD
                have hP : va_P (dC, dI) vwCl [(mo, .inr (3, [.int (nI 0), .int (nI (2 ^ k)), .ref ma, .ref mb, .int (nI (2 ^ k)), .ref lo, .ref hi, .ref kp, .ref ot, .ref su])), (ma, .inl (cI, 256, .inl fa)), (mb, .inl (cI, 256, .inl fb)), (lo, .inl (cJ, 511, .inr (.inl (fun j => lI ((acc (zrL LW (2 ^ k)) 0 (2 ^ k) fa fb 0) j))))), (hi, .inl (cJ, 511, .inr (.inl (fun j => lI ((zrL HW (2 ^ k)) j)))))] H := hP
                have hD : va_D A [(mo, .inr (3, [.int (nI 0), .int (nI (2 ^ k)), .ref ma, .ref mb, .int (nI (2 ^ k)), .ref lo, .ref hi, .ref kp, .ref ot, .ref su])), (ma, .inl (cI, 256, .inl fa)), (mb, .inl (cI, 256, .inl fb)), (lo, .inl (cJ, 511, .inr (.inl (fun j => lI ((acc (zrL LW (2 ^ k)) 0 (2 ^ k) fa fb 0) j))))), (hi, .inl (cJ, 511, .inr (.inl (fun j => lI ((zrL HW (2 ^ k)) j)))))] := hD
                refine lv_istore_n (lv' := [(2, .int (nI 0)), (1, .int (nI 0)), (0, .ref mo)]) hx hb dX4_fold_82 rfl hl (by decide) rfl (fun ls hl => ?_)
                have key_83 : ∀ (fuel : Nat) (a : Nat) (HQ : Nat → Int), (a ≤ 2 ^ k) → (∀ i, i < 2 ^ k → HQ i = (acc (zrL LW (2 ^ k)) 0 (2 ^ k) fa fb a) i / 18446744073709551616) → (2 ^ k - a < fuel) → ∀ (H : Heap) (locs : List Loc) (ls : Array Slot), va_P (dC, dI) vwCl [(mo, .inr (3, [.int (nI 0), .int (nI (2 ^ k)), .ref ma, .ref mb, .int (nI (2 ^ k)), .ref lo, .ref hi, .ref kp, .ref ot, .ref su])), (ma, .inl (cI, 256, .inl fa)), (mb, .inl (cI, 256, .inl fb)), (lo, .inl (cJ, 511, .inr (.inl (fun j => lI ((acc (zrL LW (2 ^ k)) 0 (2 ^ k) fa fb a) j))))), (hi, .inl (cJ, 511, .inr (.inl (fun j => lI (HQ j)))))] H → va_D A [(mo, .inr (3, [.int (nI 0), .int (nI (2 ^ k)), .ref ma, .ref mb, .int (nI (2 ^ k)), .ref lo, .ref hi, .ref kp, .ref ot, .ref su])), (ma, .inl (cI, 256, .inl fa)), (mb, .inl (cI, 256, .inl fb)), (lo, .inl (cJ, 511, .inr (.inl (fun j => lI ((acc (zrL LW (2 ^ k)) 0 (2 ^ k) fa fb a) j))))), (hi, .inl (cJ, 511, .inr (.inl (fun j => lI (HQ j)))))] → va_S A s.heap H locs → lv_has ls 7 [(2, .int (nI a)), (1, .int (nI 0)), (0, .ref mo)] → W p l e (headSpec wsX4_fold { frames := 1, cells := 0, slots := 0, locals := 26 }).room s m ([.ref mo, .int (nI 0)] : List Value).toArray below meth c H locs 0 0 (MQ below (q_X4_fold_0 dC dI mo ma mb lo hi kp ot su k rs tv cI cJ fa fb LW HW  A) ([.ref mo, .int (nI 0)] : List Value).toArray s 0 0 A) (F0 m 83 ls []) := by
                  intro fuel
                  induction fuel with
                  | zero => intro a HQ; intros; omega
                  | succ fuel ih_83 =>
                    intro a HQ ha hH hfu H locs ls hP hD hS hl
                    refine lv_iload_n hx hb dX4_fold_83 rfl (lv_at hl 0 rfl) ?_
                    refine lv_aload_n hx hb dX4_fold_84 rfl (lv_at hl 2 rfl) ?_
                    refine va_get (D := (dC, dI)) (ci := 3) (v := .int (nI (2 ^ k))) (C := RX4) (T := TX4) (N := 10) hx hb hts (by decide +kernel) hown hK hP 0 rfl rfl 1 (by decide) (hts (.fieldLink RX4 7 "ThreePrimesModel" "n" "I") (by decide +kernel)) (fun _ h9 => h9) rfl dX4_fold_85 ?_
                    refine lv_icmp_ge (tgt := 193) hx hb dX4_fold_88 (by decide) (fun c_6 => ?_) (fun c_6 => ?_)
                    · have c_6 : 2 ^ k ≤ a := (nI_leI (a := 2 ^ k) (b := a) (by omega) (by omega)).mp c_6
                      refine lv_aload_n hx hb dX4_fold_193 rfl (lv_at hl 2 rfl) ?_
                      refine va_get (D := (dC, dI)) (ci := 3) (v := .int (nI (2 ^ k))) (C := RX4) (T := TX4) (N := 10) hx hb hts (by decide +kernel) hown hK hP 0 rfl rfl 4 (by decide) (hts (.fieldLink RX4 39 "ThreePrimesModel" "results" "I") (by decide +kernel)) (fun _ h9 => h9) rfl dX4_fold_194 ?_
                      rw [show a = 2 ^ k by omega] at hP hD hH
                      have hP : va_P (dC, dI) vwCl [(mo, .inr (3, [.int (nI 0), .int (nI (2 ^ k)), .ref ma, .ref mb, .int (nI (2 ^ k)), .ref lo, .ref hi, .ref kp, .ref ot, .ref su])), (ma, .inl (cI, 256, .inl fa)), (mb, .inl (cI, 256, .inl fb)), (lo, .inl (cJ, 511, .inr (.inl (fun j => lI ((acc (zrL LW (cntK 0 k)) 0 (2 ^ k) fa fb (2 ^ k)) j))))), (hi, .inl (cJ, 511, .inr (.inl (fun j => lI (HQ j)))))] H := hP
                      have hD : va_D A [(mo, .inr (3, [.int (nI 0), .int (nI (2 ^ k)), .ref ma, .ref mb, .int (nI (2 ^ k)), .ref lo, .ref hi, .ref kp, .ref ot, .ref su])), (ma, .inl (cI, 256, .inl fa)), (mb, .inl (cI, 256, .inl fb)), (lo, .inl (cJ, 511, .inr (.inl (fun j => lI ((acc (zrL LW (cntK 0 k)) 0 (2 ^ k) fa fb (2 ^ k)) j))))), (hi, .inl (cJ, 511, .inr (.inl (fun j => lI (HQ j)))))] := hD
                      have hP9 : va_P (dC, dI) vwCl [(mo, .inr (3, [.int (nI 0), .int (nI (2 ^ k)), .ref ma, .ref mb, .int (nI (cntK 0 k)), .ref lo, .ref hi, .ref kp, .ref ot, .ref su])), (ma, .inl (cI, 256, .inl fa)), (mb, .inl (cI, 256, .inl fb)), (lo, .inl (cJ, 511, .inr (.inl (fun j => lI ((acc (zrL LW (cntK 0 k)) 0 (2 ^ k) fa fb (2 ^ k)) j))))), (hi, .inl (cJ, 511, .inr (.inl (fun j => lI (HQ j)))))] H := hP.sub [0, 1, 2, 3, 4] rfl
                      have hD9 : va_D A [(mo, .inr (3, [.int (nI 0), .int (nI (2 ^ k)), .ref ma, .ref mb, .int (nI (cntK 0 k)), .ref lo, .ref hi, .ref kp, .ref ot, .ref su])), (ma, .inl (cI, 256, .inl fa)), (mb, .inl (cI, 256, .inl fb)), (lo, .inl (cJ, 511, .inr (.inl (fun j => lI ((acc (zrL LW (cntK 0 k)) 0 (2 ^ k) fa fb (2 ^ k)) j))))), (hi, .inl (cJ, 511, .inr (.inl (fun j => lI (HQ j)))))] := hD.sub [0, 1, 2, 3, 4] (by decide) rfl
                      exact W.iret (v := nI (2 ^ k)) hx hb hr (fun tq9 ht hW => ⟨⟨nI (2 ^ k), HQ, rfl, ⟨rfl, hH⟩, by rw [ht]; exact hP9, hD9⟩, hS.F ht⟩) hS.2.2 dX4_fold_197
                    · have c_6 : ¬ (2 ^ k ≤ a) := fun zq9 => c_6 ((nI_leI (a := 2 ^ k) (b := a) (by omega) (by omega)).mpr zq9)
                      refine lv_iconst (v := nI 0) hx hb dX4_fold_91 (by decide) ?_
                      rw [show acc (zrL LW (2 ^ k)) 0 (2 ^ k) fa fb a = accR (acc (zrL LW (2 ^ k)) 0 (2 ^ k) fa fb a) 0 (2 ^ k) fa fb a 0 from rfl] at hP hD
                      have hP : va_P (dC, dI) vwCl [(mo, .inr (3, [.int (nI 0), .int (nI (2 ^ k)), .ref ma, .ref mb, .int (nI (2 ^ k)), .ref lo, .ref hi, .ref kp, .ref ot, .ref su])), (ma, .inl (cI, 256, .inl fa)), (mb, .inl (cI, 256, .inl fb)), (lo, .inl (cJ, 511, .inr (.inl (fun j => lI ((accR (acc (zrL LW (2 ^ k)) 0 (2 ^ k) fa fb a) 0 (2 ^ k) fa fb a 0) j))))), (hi, .inl (cJ, 511, .inr (.inl (fun j => lI (HQ j)))))] H := hP
                      have hD : va_D A [(mo, .inr (3, [.int (nI 0), .int (nI (2 ^ k)), .ref ma, .ref mb, .int (nI (2 ^ k)), .ref lo, .ref hi, .ref kp, .ref ot, .ref su])), (ma, .inl (cI, 256, .inl fa)), (mb, .inl (cI, 256, .inl fb)), (lo, .inl (cJ, 511, .inr (.inl (fun j => lI ((accR (acc (zrL LW (2 ^ k)) 0 (2 ^ k) fa fb a) 0 (2 ^ k) fa fb a 0) j))))), (hi, .inl (cJ, 511, .inr (.inl (fun j => lI (HQ j)))))] := hD
                      refine lv_istore_n (lv' := [(3, .int (nI 0)), (2, .int (nI a)), (1, .int (nI 0)), (0, .ref mo)]) hx hb dX4_fold_92 rfl hl (by decide) rfl (fun ls hl => ?_)
                      have key_93 : ∀ (fuel : Nat) (b : Nat) (HQ : Nat → Int), (b ≤ 2 ^ k) → (∀ i, i < 2 ^ k → HQ i = (accR (acc (zrL LW (2 ^ k)) 0 (2 ^ k) fa fb a) 0 (2 ^ k) fa fb a b) i / 18446744073709551616) → (2 ^ k - b < fuel) → ∀ (H : Heap) (locs : List Loc) (ls : Array Slot), va_P (dC, dI) vwCl [(mo, .inr (3, [.int (nI 0), .int (nI (2 ^ k)), .ref ma, .ref mb, .int (nI (2 ^ k)), .ref lo, .ref hi, .ref kp, .ref ot, .ref su])), (ma, .inl (cI, 256, .inl fa)), (mb, .inl (cI, 256, .inl fb)), (lo, .inl (cJ, 511, .inr (.inl (fun j => lI ((accR (acc (zrL LW (2 ^ k)) 0 (2 ^ k) fa fb a) 0 (2 ^ k) fa fb a b) j))))), (hi, .inl (cJ, 511, .inr (.inl (fun j => lI (HQ j)))))] H → va_D A [(mo, .inr (3, [.int (nI 0), .int (nI (2 ^ k)), .ref ma, .ref mb, .int (nI (2 ^ k)), .ref lo, .ref hi, .ref kp, .ref ot, .ref su])), (ma, .inl (cI, 256, .inl fa)), (mb, .inl (cI, 256, .inl fb)), (lo, .inl (cJ, 511, .inr (.inl (fun j => lI ((accR (acc (zrL LW (2 ^ k)) 0 (2 ^ k) fa fb a) 0 (2 ^ k) fa fb a b) j))))), (hi, .inl (cJ, 511, .inr (.inl (fun j => lI (HQ j)))))] → va_S A s.heap H locs → lv_has ls 7 [(3, .int (nI b)), (2, .int (nI a)), (1, .int (nI 0)), (0, .ref mo)] → W p l e (headSpec wsX4_fold { frames := 1, cells := 0, slots := 0, locals := 26 }).room s m ([.ref mo, .int (nI 0)] : List Value).toArray below meth c H locs 0 0 (MQ below (q_X4_fold_0 dC dI mo ma mb lo hi kp ot su k rs tv cI cJ fa fb LW HW  A) ([.ref mo, .int (nI 0)] : List Value).toArray s 0 0 A) (F0 m 93 ls []) := by
                        intro fuel
                        induction fuel with
                        | zero => intro b HQ; intros; omega
                        | succ fuel ih_93 =>
                          intro b HQ hb9 hH hfu H locs ls hP hD hS hl
                          refine lv_iload_n hx hb dX4_fold_93 rfl (lv_at hl 0 rfl) ?_
                          refine lv_aload_n hx hb dX4_fold_94 rfl (lv_at hl 3 rfl) ?_
                          refine va_get (D := (dC, dI)) (ci := 3) (v := .int (nI (2 ^ k))) (C := RX4) (T := TX4) (N := 10) hx hb hts (by decide +kernel) hown hK hP 0 rfl rfl 1 (by decide) (hts (.fieldLink RX4 7 "ThreePrimesModel" "n" "I") (by decide +kernel)) (fun _ h9 => h9) rfl dX4_fold_95 ?_
                          refine lv_icmp_ge (tgt := 187) hx hb dX4_fold_98 (by decide) (fun c_7 => ?_) (fun c_7 => ?_)
                          · have c_7 : 2 ^ k ≤ b := (nI_leI (a := 2 ^ k) (b := b) (by omega) (by omega)).mp c_7
                            rw [show accR (acc (zrL LW (2 ^ k)) 0 (2 ^ k) fa fb a) 0 (2 ^ k) fa fb a b = acc (zrL LW (2 ^ k)) 0 (2 ^ k) fa fb (a + 1) from by rw [show b = 2 ^ k by omega]; rfl] at hP hD
                            have hP : va_P (dC, dI) vwCl [(mo, .inr (3, [.int (nI 0), .int (nI (2 ^ k)), .ref ma, .ref mb, .int (nI (2 ^ k)), .ref lo, .ref hi, .ref kp, .ref ot, .ref su])), (ma, .inl (cI, 256, .inl fa)), (mb, .inl (cI, 256, .inl fb)), (lo, .inl (cJ, 511, .inr (.inl (fun j => lI ((acc (zrL LW (2 ^ k)) 0 (2 ^ k) fa fb (a + 1)) j))))), (hi, .inl (cJ, 511, .inr (.inl (fun j => lI (HQ j)))))] H := hP
                            have hD : va_D A [(mo, .inr (3, [.int (nI 0), .int (nI (2 ^ k)), .ref ma, .ref mb, .int (nI (2 ^ k)), .ref lo, .ref hi, .ref kp, .ref ot, .ref su])), (ma, .inl (cI, 256, .inl fa)), (mb, .inl (cI, 256, .inl fb)), (lo, .inl (cJ, 511, .inr (.inl (fun j => lI ((acc (zrL LW (2 ^ k)) 0 (2 ^ k) fa fb (a + 1)) j))))), (hi, .inl (cJ, 511, .inr (.inl (fun j => lI (HQ j)))))] := hD
                            refine lv_iinc (v := nI (a + 1)) (lv' := [(2, .int (nI (a + 1))), (3, .int (nI b)), (1, .int (nI 0)), (0, .ref mo)]) hx hb dX4_fold_187 hl (k := 1) rfl (nI_add a 1) (by decide) rfl (fun ls hl => ?_)
                            refine lv_goto (tgt := 83) hx hb dX4_fold_190 (by decide) ?_
                            exact ih_83  (a + 1) HQ (by omega) (by rw [show b = 2 ^ k by omega] at hH; exact hH) (by omega) _ _ _ (hP.sub [0, 1, 2, 3, 4] rfl) (hD.sub [0, 1, 2, 3, 4] (by decide) rfl) hS (lv_sub hl [0, 2, 3] rfl)
                          · have c_7 : ¬ (2 ^ k ≤ b) := fun zq9 => c_7 ((nI_leI (a := 2 ^ k) (b := b) (by omega) (by omega)).mpr zq9)
                            have mb9 := mul_i32 (fa a) (fb b)
                            refine lv_aload_n hx hb dX4_fold_101 rfl (lv_at hl 3 rfl) ?_
                            refine va_get (D := (dC, dI)) (ci := 3) (v := .ref ma) (C := RX4) (T := TX4) (N := 10) hx hb hts (by decide +kernel) hown hK hP 0 rfl rfl 2 (by decide) (hts (.fieldLink RX4 13 "ThreePrimesModel" "a" "[I") (by decide +kernel)) (fun _ h9 => h9) rfl dX4_fold_102 ?_
                            refine lv_iload_n hx hb dX4_fold_105 rfl (lv_at hl 1 rfl) ?_
                            refine va_iald hx hb hK hP 1 0 rfl rfl (vp_in_nI (by omega) (by omega)) dX4_fold_106 ?_
                            refine W.eq (g2 := F0 m _ ls [.int (fa a)]) (by rw [nI_clamp (by omega)]) ?_
                            refine lv_i2l (v := lI ((fa a).toInt)) hx hb dX4_fold_107 (i2l_I (fa a)) ?_
                            refine lv_aload_n hx hb dX4_fold_108 rfl (lv_at hl 3 rfl) ?_
                            refine va_get (D := (dC, dI)) (ci := 3) (v := .ref mb) (C := RX4) (T := TX4) (N := 10) hx hb hts (by decide +kernel) hown hK hP 0 rfl rfl 3 (by decide) (hts (.fieldLink RX4 17 "ThreePrimesModel" "b" "[I") (by decide +kernel)) (fun _ h9 => h9) rfl dX4_fold_109 ?_
                            refine lv_iload_n hx hb dX4_fold_112 rfl (lv_at hl 0 rfl) ?_
                            refine va_iald hx hb hK hP 2 0 rfl rfl (vp_in_nI (by omega) (by omega)) dX4_fold_113 ?_
                            refine W.eq (g2 := F0 m _ ls [.int (fb b), .long (lI ((fa a).toInt))]) (by rw [nI_clamp (by omega)]) ?_
                            refine lv_i2l (v := lI ((fb b).toInt)) hx hb dX4_fold_114 (i2l_I (fb b)) ?_
                            refine lv_lmul hx hb dX4_fold_115 ?_
                            refine W.eq (congrArg (fun z => F0 m _ ls (.long z :: _)) (show lI ((fa a).toInt) * lI ((fb b).toInt) = lI (((fa a).toInt) * ((fb b).toInt)) from lI_mul ((fa a).toInt) ((fb b).toInt))) ?_
                            refine lv_lstore (lv' := [(4, .long (lI (((fa a).toInt) * ((fb b).toInt)))), (3, .int (nI b)), (2, .int (nI a)), (1, .int (nI 0)), (0, .ref mo)]) hx hb dX4_fold_116 hl (by decide) rfl (fun ls hl => ?_)
                            refine lv_iload_n hx hb dX4_fold_118 rfl (lv_at hl 3 rfl) ?_
                            refine lv_iconst (v := nI 2) hx hb dX4_fold_119 (by decide) ?_
                            refine lv_icmp_ge (tgt := 137) hx hb dX4_fold_120 (by decide) (fun c_8 => ?_) (fun c_8 => ?_)
                            · have c_8 : 2 ≤ 0 := (nI_leI (a := 2) (b := 0) (by omega) (by omega)).mp c_8
                              omega
                            · have c_8 : ¬ (2 ≤ 0) := fun zq9 => c_8 ((nI_leI (a := 2) (b := 0) (by omega) (by omega)).mpr zq9)
                              refine lv_iload_n hx hb dX4_fold_123 rfl (lv_at hl 2 rfl) ?_
                              refine lv_iload_n hx hb dX4_fold_124 rfl (lv_at hl 1 rfl) ?_
                              refine lv_iadd hx hb dX4_fold_125 ?_
                              refine W.eq (congrArg (fun z => F0 m _ ls (.int z :: _)) (show (nI a) + (nI b) = nI (a + b) from nI_add a b)) ?_
                              refine lv_aload_n hx hb dX4_fold_126 rfl (lv_at hl 4 rfl) ?_
                              refine va_get (D := (dC, dI)) (ci := 3) (v := .int (nI (2 ^ k))) (C := RX4) (T := TX4) (N := 10) hx hb hts (by decide +kernel) hown hK hP 0 rfl rfl 1 (by decide) (hts (.fieldLink RX4 7 "ThreePrimesModel" "n" "I") (by decide +kernel)) (fun _ h9 => h9) rfl dX4_fold_127 ?_
                              refine lv_icmp_lt (tgt := 137) hx hb dX4_fold_130 (by decide) (fun c_9 => ?_) (fun c_9 => ?_)
                              · have c_9 : a + b < 2 ^ k := (nI_ltI (a := a + b) (b := 2 ^ k) (by omega) (by omega)).mp c_9
                                refine lv_iconst (v := nI 0) hx hb dX4_fold_137 (by decide) ?_
                                refine lv_istore (lv' := [(6, .int (nI 0)), (4, .long (lI (((fa a).toInt) * ((fb b).toInt)))), (3, .int (nI b)), (2, .int (nI a)), (1, .int (nI 0)), (0, .ref mo)]) hx hb dX4_fold_138 hl (by decide) rfl (fun ls hl => ?_)
                                refine lv_aload_n hx hb dX4_fold_140 rfl (lv_at hl 5 rfl) ?_
                                refine lv_iload hx hb dX4_fold_141 (lv_at hl 0 rfl) ?_
                                refine lv_if_eq (tgt := 157) hx hb dX4_fold_143 (by decide) (fun c_10 => ?_) (fun c_10 => ?_)
                                · have c_10 : 0 = 0 := (nI_eq (a := 0) (b := 0) (by omega) (by omega)).mp c_10
                                  refine lv_iload_n hx hb dX4_fold_157 rfl (lv_at hl 3 rfl) ?_
                                  refine lv_iload_n hx hb dX4_fold_158 rfl (lv_at hl 2 rfl) ?_
                                  refine lv_iadd hx hb dX4_fold_159 ?_
                                  refine W.eq (congrArg (fun z => F0 m _ ls (.int z :: _)) (show (nI a) + (nI b) = nI (a + b) from nI_add a b)) ?_
                                  refine lv_iload hx hb dX4_fold_160 (lv_at hl 0 rfl) ?_
                                  refine lv_if_eq (tgt := 176) hx hb dX4_fold_162 (by decide) (fun c_11 => ?_) (fun c_11 => ?_)
                                  · have c_11 : 0 = 0 := (nI_eq (a := 0) (b := 0) (by omega) (by omega)).mp c_11
                                    refine lv_lload hx hb dX4_fold_176 (lv_at hl 1 rfl) ?_
                                    have hPc := hP.sub (ws' := [(mo, .inr (3, [.int (nI 0), .int (nI (2 ^ k)), .ref ma, .ref mb, .int (nI (2 ^ k)), .ref lo, .ref hi, .ref kp, .ref ot, .ref su])), (lo, .inl (cJ, 511, .inr (.inl (fun j => lI ((accR (acc (zrL LW (2 ^ k)) 0 (2 ^ k) fa fb a) 0 (2 ^ k) fa fb a b) j))))), (hi, .inl (cJ, 511, .inr (.inl (fun j => lI (HQ j)))))]) [0, 3, 4] rfl
                                    have hDc := hD.sub (ws' := [(mo, .inr (3, [.int (nI 0), .int (nI (2 ^ k)), .ref ma, .ref mb, .int (nI (2 ^ k)), .ref lo, .ref hi, .ref kp, .ref ot, .ref su])), (lo, .inl (cJ, 511, .inr (.inl (fun j => lI ((accR (acc (zrL LW (2 ^ k)) 0 (2 ^ k) fa fb a) 0 (2 ^ k) fa fb a b) j))))), (hi, .inl (cJ, 511, .inr (.inl (fun j => lI (HQ j)))))]) [0, 3, 4] (by decide) rfl
                                    have hKc := hK.sub (tys' := [(cJ, .long)]) [1] rfl
                                    have hFc := va_free (wc := [(mo, .inr (3, [.int (nI 0), .int (nI (2 ^ k)), .ref ma, .ref mb, .int (nI (2 ^ k)), .ref lo, .ref hi, .ref kp, .ref ot, .ref su])), (lo, .inl (cJ, 511, .inr (.inl (fun j => lI ((accR (acc (zrL LW (2 ^ k)) 0 (2 ^ k) fa fb a) 0 (2 ^ k) fa fb a b) j))))), (hi, .inl (cJ, 511, .inr (.inl (fun j => lI (HQ j)))))]) hD hS hA [0, 3, 4] rfl
                                    refine va_callv (va_runV (As := [.int (nI (a + b)), .long (lI (((fa a).toInt) * ((fb b).toInt)))]) (rest := []) ⟨hx, hb, hml, hown, hts⟩ (c_X4_add l dC dI mo ma mb lo hi kp ot su k (2 ^ k) (nI 0) cJ (accR (acc (zrL LW (2 ^ k)) 0 (2 ^ k) fa fb a) 0 (2 ^ k) fa fb a b) HQ (a + b) (((fa a).toInt) * ((fb b).toInt)) H.size (by omega) (by omega) (by omega) (hH _ (by omega))) (cwV 2 hts gX4_fold_X4_add rfl rfl rfl (by decide +kernel) ⟨Nat.le_of_ble_eq_true rfl, Nat.le_of_ble_eq_true rfl⟩) ⟨fun a U g mk q => by obtain ⟨q0, q1, qP, qK, qD⟩ := q; exact ⟨q0, q1, qP, va_K.moved (u := U) (U := U.calling g mk a) (Vm.Alike.refl U.vm) qK, qD⟩, va_recv hKc hPc (ci := 3) (q0 := 0) rfl rfl, fun U hU hW => ⟨rfl, by rw [hU], by rw [hU]; exact hPc, va_K.moved hW.alike hKc, hDc.weaken (fun _ _ _ _ => trivial)⟩⟩ rfl rfl hl.1 rfl (lv_room (Nat.le_of_ble_eq_true rfl)) dX4_fold_178 ⟨Nat.le_of_ble_eq_true rfl, Nat.le_of_ble_eq_true rfl⟩) hS (fun q _ h => hFc q h) hFc (fun u9 t9 H1 locs ht hvm hw hB hz1 hk1 hS => ?_)
                                    obtain ⟨hP1, hD1⟩ := hB
                                    rw [ht] at hP1
                                    try dsimp only at hw
                                    obtain ⟨hP, hD⟩ := va_join (wr := [(ma, .inl (cI, 256, .inl fa)), (mb, .inl (cI, 256, .inl fb))]) (w1 := [(mo, .inr (3, [.int (nI 0), .int (nI (2 ^ k)), .ref ma, .ref mb, .int (nI (2 ^ k)), .ref lo, .ref hi, .ref kp, .ref ot, .ref su])), (lo, .inl (cJ, 511, .inr (.inl (fun j => lI ((upI (accR (acc (zrL LW (2 ^ k)) 0 (2 ^ k) fa fb a) 0 (2 ^ k) fa fb a b) (a + b) ((accR (acc (zrL LW (2 ^ k)) 0 (2 ^ k) fa fb a) 0 (2 ^ k) fa fb a b) (a + b) + (((fa a).toInt) * ((fb b).toInt)))) j))))), (hi, .inl (cJ, 511, .inr (.inl (fun j => lI ((upI HQ (a + b) (((accR (acc (zrL LW (2 ^ k)) 0 (2 ^ k) fa fb a) 0 (2 ^ k) fa fb a b) (a + b) + (((fa a).toInt) * ((fb b).toInt))) / 18446744073709551616)) j)))))]) hP hD [0, 3, 4] [1, 2] rfl rfl (by decide) (by decide) hk1 hFc hP1 hD1
                                    generalize H1 = H at hP hS ⊢
                                    have hP : va_P (dC, dI) vwCl [(ma, .inl (cI, 256, .inl fa)), (mb, .inl (cI, 256, .inl fb)), (mo, .inr (3, [.int (nI 0), .int (nI (2 ^ k)), .ref ma, .ref mb, .int (nI (2 ^ k)), .ref lo, .ref hi, .ref kp, .ref ot, .ref su])), (lo, .inl (cJ, 511, .inr (.inl (fun j => lI ((upI (accR (acc (zrL LW (2 ^ k)) 0 (2 ^ k) fa fb a) 0 (2 ^ k) fa fb a b) (a + b) ((accR (acc (zrL LW (2 ^ k)) 0 (2 ^ k) fa fb a) 0 (2 ^ k) fa fb a b) (a + b) + (((fa a).toInt) * ((fb b).toInt)))) j))))), (hi, .inl (cJ, 511, .inr (.inl (fun j => lI ((upI HQ (a + b) (((accR (acc (zrL LW (2 ^ k)) 0 (2 ^ k) fa fb a) 0 (2 ^ k) fa fb a b) (a + b) + (((fa a).toInt) * ((fb b).toInt))) / 18446744073709551616)) j)))))] H := hP
                                    have hD : va_D A [(ma, .inl (cI, 256, .inl fa)), (mb, .inl (cI, 256, .inl fb)), (mo, .inr (3, [.int (nI 0), .int (nI (2 ^ k)), .ref ma, .ref mb, .int (nI (2 ^ k)), .ref lo, .ref hi, .ref kp, .ref ot, .ref su])), (lo, .inl (cJ, 511, .inr (.inl (fun j => lI ((upI (accR (acc (zrL LW (2 ^ k)) 0 (2 ^ k) fa fb a) 0 (2 ^ k) fa fb a b) (a + b) ((accR (acc (zrL LW (2 ^ k)) 0 (2 ^ k) fa fb a) 0 (2 ^ k) fa fb a b) (a + b) + (((fa a).toInt) * ((fb b).toInt)))) j))))), (hi, .inl (cJ, 511, .inr (.inl (fun j => lI ((upI HQ (a + b) (((accR (acc (zrL LW (2 ^ k)) 0 (2 ^ k) fa fb a) 0 (2 ^ k) fa fb a b) (a + b) + (((fa a).toInt) * ((fb b).toInt))) / 18446744073709551616)) j)))))] := hD
                                    clear hPc hDc hKc hFc hP1 hD1 hk1 hz1 hvm ht
                                    clear hw
                                    have hH2 := hH_s (t := a + b) (v := ((fa a).toInt) * ((fb b).toInt)) hH
                                    rw [accR_s (kd := 0) (n := 2 ^ k) (f := fa) (g := fb) (a := a) (b := b) (t := a + b) (v := ((fa a).toInt) * ((fb b).toInt)) (if_neg (by omega)) (if_neg (by omega))] at hH2
                                    rw [show upI (accR (acc (zrL LW (2 ^ k)) 0 (2 ^ k) fa fb a) 0 (2 ^ k) fa fb a b) (a + b) ((accR (acc (zrL LW (2 ^ k)) 0 (2 ^ k) fa fb a) 0 (2 ^ k) fa fb a b) (a + b) + (((fa a).toInt) * ((fb b).toInt))) = accR (acc (zrL LW (2 ^ k)) 0 (2 ^ k) fa fb a) 0 (2 ^ k) fa fb a (b + 1) from accR_s (if_neg (by omega)) (if_neg (by omega))] at hP hD
                                    have hP : va_P (dC, dI) vwCl [(ma, .inl (cI, 256, .inl fa)), (mb, .inl (cI, 256, .inl fb)), (mo, .inr (3, [.int (nI 0), .int (nI (2 ^ k)), .ref ma, .ref mb, .int (nI (2 ^ k)), .ref lo, .ref hi, .ref kp, .ref ot, .ref su])), (lo, .inl (cJ, 511, .inr (.inl (fun j => lI ((accR (acc (zrL LW (2 ^ k)) 0 (2 ^ k) fa fb a) 0 (2 ^ k) fa fb a (b + 1)) j))))), (hi, .inl (cJ, 511, .inr (.inl (fun j => lI ((upI HQ (a + b) (((accR (acc (zrL LW (2 ^ k)) 0 (2 ^ k) fa fb a) 0 (2 ^ k) fa fb a b) (a + b) + (((fa a).toInt) * ((fb b).toInt))) / 18446744073709551616)) j)))))] H := hP
                                    have hD : va_D A [(ma, .inl (cI, 256, .inl fa)), (mb, .inl (cI, 256, .inl fb)), (mo, .inr (3, [.int (nI 0), .int (nI (2 ^ k)), .ref ma, .ref mb, .int (nI (2 ^ k)), .ref lo, .ref hi, .ref kp, .ref ot, .ref su])), (lo, .inl (cJ, 511, .inr (.inl (fun j => lI ((accR (acc (zrL LW (2 ^ k)) 0 (2 ^ k) fa fb a) 0 (2 ^ k) fa fb a (b + 1)) j))))), (hi, .inl (cJ, 511, .inr (.inl (fun j => lI ((upI HQ (a + b) (((accR (acc (zrL LW (2 ^ k)) 0 (2 ^ k) fa fb a) 0 (2 ^ k) fa fb a b) (a + b) + (((fa a).toInt) * ((fb b).toInt))) / 18446744073709551616)) j)))))] := hD
                                    refine lv_iinc (v := nI (b + 1)) (lv' := [(3, .int (nI (b + 1))), (6, .int (nI 0)), (4, .long (lI (((fa a).toInt) * ((fb b).toInt)))), (2, .int (nI a)), (1, .int (nI 0)), (0, .ref mo)]) hx hb dX4_fold_181 hl (k := 2) rfl (nI_add b 1) (by decide) rfl (fun ls hl => ?_)
                                    refine lv_goto (tgt := 93) hx hb dX4_fold_184 (by decide) ?_
                                    exact ih_93  (b + 1) (upI HQ (a + b) (((accR (acc (zrL LW (2 ^ k)) 0 (2 ^ k) fa fb a) 0 (2 ^ k) fa fb a b) (a + b) + (((fa a).toInt) * ((fb b).toInt))) / 18446744073709551616)) (by omega) (hH2) (by omega) _ _ _ (hP.sub [2, 0, 1, 3, 4] rfl) (hD.sub [2, 0, 1, 3, 4] (by decide) rfl) hS (lv_sub hl [0, 3, 4, 5] rfl)
                                  · have c_11 : ¬ (0 = 0) := fun zq9 => c_11 ((nI_eq (a := 0) (b := 0) (by omega) (by omega)).mpr zq9)
                                    omega
                                · have c_10 : ¬ (0 = 0) := fun zq9 => c_10 ((nI_eq (a := 0) (b := 0) (by omega) (by omega)).mpr zq9)
                                  omega
                              · have c_9 : ¬ (a + b < 2 ^ k) := fun zq9 => c_9 ((nI_ltI (a := a + b) (b := 2 ^ k) (by omega) (by omega)).mpr zq9)
                                refine lv_iconst (v := nI 1) hx hb dX4_fold_133 (by decide) ?_
                                refine lv_goto (tgt := 138) hx hb dX4_fold_134 (by decide) ?_
                                refine lv_istore (lv' := [(6, .int (nI 1)), (4, .long (lI (((fa a).toInt) * ((fb b).toInt)))), (3, .int (nI b)), (2, .int (nI a)), (1, .int (nI 0)), (0, .ref mo)]) hx hb dX4_fold_138 hl (by decide) rfl (fun ls hl => ?_)
                                refine lv_aload_n hx hb dX4_fold_140 rfl (lv_at hl 5 rfl) ?_
                                refine lv_iload hx hb dX4_fold_141 (lv_at hl 0 rfl) ?_
                                refine lv_if_eq (tgt := 157) hx hb dX4_fold_143 (by decide) (fun c_12 => ?_) (fun c_12 => ?_)
                                · have c_12 : 1 = 0 := (nI_eq (a := 1) (b := 0) (by omega) (by omega)).mp c_12
                                  omega
                                · have c_12 : ¬ (1 = 0) := fun zq9 => c_12 ((nI_eq (a := 1) (b := 0) (by omega) (by omega)).mpr zq9)
                                  refine lv_iload_n hx hb dX4_fold_146 rfl (lv_at hl 3 rfl) ?_
                                  refine lv_iload_n hx hb dX4_fold_147 rfl (lv_at hl 2 rfl) ?_
                                  refine lv_iadd hx hb dX4_fold_148 ?_
                                  refine W.eq (congrArg (fun z => F0 m _ ls (.int z :: _)) (show (nI a) + (nI b) = nI (a + b) from nI_add a b)) ?_
                                  refine lv_aload_n hx hb dX4_fold_149 rfl (lv_at hl 5 rfl) ?_
                                  refine va_get (D := (dC, dI)) (ci := 3) (v := .int (nI (2 ^ k))) (C := RX4) (T := TX4) (N := 10) hx hb hts (by decide +kernel) hown hK hP 0 rfl rfl 1 (by decide) (hts (.fieldLink RX4 7 "ThreePrimesModel" "n" "I") (by decide +kernel)) (fun _ h9 => h9) rfl dX4_fold_150 ?_
                                  refine lv_isub hx hb dX4_fold_153 ?_
                                  refine W.eq (congrArg (fun z => F0 m _ ls (.int z :: _)) (show (nI (a + b)) - (nI (2 ^ k)) = nI (a + b - (2 ^ k)) from pk_sub (by omega))) ?_
                                  refine lv_goto (tgt := 160) hx hb dX4_fold_154 (by decide) ?_
                                  refine lv_iload hx hb dX4_fold_160 (lv_at hl 0 rfl) ?_
                                  refine lv_if_eq (tgt := 176) hx hb dX4_fold_162 (by decide) (fun c_13 => ?_) (fun c_13 => ?_)
                                  · have c_13 : 1 = 0 := (nI_eq (a := 1) (b := 0) (by omega) (by omega)).mp c_13
                                    omega
                                  · have c_13 : ¬ (1 = 0) := fun zq9 => c_13 ((nI_eq (a := 1) (b := 0) (by omega) (by omega)).mpr zq9)
                                    refine lv_iload_n hx hb dX4_fold_165 rfl (lv_at hl 4 rfl) ?_
                                    refine lv_iconst (v := nI 1) hx hb dX4_fold_166 (by decide) ?_
                                    refine lv_icmp_ne (tgt := 176) hx hb dX4_fold_167 (by decide) (fun c_14 => ?_) (fun c_14 => ?_)
                                    · have c_14 : ¬ (0 = 1) := fun zq9 => c_14 ((nI_eq (a := 0) (b := 1) (by omega) (by omega)).mpr zq9)
                                      refine lv_lload hx hb dX4_fold_176 (lv_at hl 1 rfl) ?_
                                      have hPc := hP.sub (ws' := [(mo, .inr (3, [.int (nI 0), .int (nI (2 ^ k)), .ref ma, .ref mb, .int (nI (2 ^ k)), .ref lo, .ref hi, .ref kp, .ref ot, .ref su])), (lo, .inl (cJ, 511, .inr (.inl (fun j => lI ((accR (acc (zrL LW (2 ^ k)) 0 (2 ^ k) fa fb a) 0 (2 ^ k) fa fb a b) j))))), (hi, .inl (cJ, 511, .inr (.inl (fun j => lI (HQ j)))))]) [0, 3, 4] rfl
                                      have hDc := hD.sub (ws' := [(mo, .inr (3, [.int (nI 0), .int (nI (2 ^ k)), .ref ma, .ref mb, .int (nI (2 ^ k)), .ref lo, .ref hi, .ref kp, .ref ot, .ref su])), (lo, .inl (cJ, 511, .inr (.inl (fun j => lI ((accR (acc (zrL LW (2 ^ k)) 0 (2 ^ k) fa fb a) 0 (2 ^ k) fa fb a b) j))))), (hi, .inl (cJ, 511, .inr (.inl (fun j => lI (HQ j)))))]) [0, 3, 4] (by decide) rfl
                                      have hKc := hK.sub (tys' := [(cJ, .long)]) [1] rfl
                                      have hFc := va_free (wc := [(mo, .inr (3, [.int (nI 0), .int (nI (2 ^ k)), .ref ma, .ref mb, .int (nI (2 ^ k)), .ref lo, .ref hi, .ref kp, .ref ot, .ref su])), (lo, .inl (cJ, 511, .inr (.inl (fun j => lI ((accR (acc (zrL LW (2 ^ k)) 0 (2 ^ k) fa fb a) 0 (2 ^ k) fa fb a b) j))))), (hi, .inl (cJ, 511, .inr (.inl (fun j => lI (HQ j)))))]) hD hS hA [0, 3, 4] rfl
                                      refine va_callv (va_runV (As := [.int (nI (a + b - (2 ^ k))), .long (lI (((fa a).toInt) * ((fb b).toInt)))]) (rest := []) ⟨hx, hb, hml, hown, hts⟩ (c_X4_add l dC dI mo ma mb lo hi kp ot su k (2 ^ k) (nI 0) cJ (accR (acc (zrL LW (2 ^ k)) 0 (2 ^ k) fa fb a) 0 (2 ^ k) fa fb a b) HQ (a + b - (2 ^ k)) (((fa a).toInt) * ((fb b).toInt)) H.size (by omega) (by omega) (by omega) (hH _ (by omega))) (cwV 2 hts gX4_fold_X4_add rfl rfl rfl (by decide +kernel) ⟨Nat.le_of_ble_eq_true rfl, Nat.le_of_ble_eq_true rfl⟩) ⟨fun a U g mk q => by obtain ⟨q0, q1, qP, qK, qD⟩ := q; exact ⟨q0, q1, qP, va_K.moved (u := U) (U := U.calling g mk a) (Vm.Alike.refl U.vm) qK, qD⟩, va_recv hKc hPc (ci := 3) (q0 := 0) rfl rfl, fun U hU hW => ⟨rfl, by rw [hU], by rw [hU]; exact hPc, va_K.moved hW.alike hKc, hDc.weaken (fun _ _ _ _ => trivial)⟩⟩ rfl rfl hl.1 rfl (lv_room (Nat.le_of_ble_eq_true rfl)) dX4_fold_178 ⟨Nat.le_of_ble_eq_true rfl, Nat.le_of_ble_eq_true rfl⟩) hS (fun q _ h => hFc q h) hFc (fun u9 t9 H1 locs ht hvm hw hB hz1 hk1 hS => ?_)
                                      obtain ⟨hP1, hD1⟩ := hB
                                      rw [ht] at hP1
                                      try dsimp only at hw
                                      obtain ⟨hP, hD⟩ := va_join (wr := [(ma, .inl (cI, 256, .inl fa)), (mb, .inl (cI, 256, .inl fb))]) (w1 := [(mo, .inr (3, [.int (nI 0), .int (nI (2 ^ k)), .ref ma, .ref mb, .int (nI (2 ^ k)), .ref lo, .ref hi, .ref kp, .ref ot, .ref su])), (lo, .inl (cJ, 511, .inr (.inl (fun j => lI ((upI (accR (acc (zrL LW (2 ^ k)) 0 (2 ^ k) fa fb a) 0 (2 ^ k) fa fb a b) (a + b - (2 ^ k)) ((accR (acc (zrL LW (2 ^ k)) 0 (2 ^ k) fa fb a) 0 (2 ^ k) fa fb a b) (a + b - (2 ^ k)) + (((fa a).toInt) * ((fb b).toInt)))) j))))), (hi, .inl (cJ, 511, .inr (.inl (fun j => lI ((upI HQ (a + b - (2 ^ k)) (((accR (acc (zrL LW (2 ^ k)) 0 (2 ^ k) fa fb a) 0 (2 ^ k) fa fb a b) (a + b - (2 ^ k)) + (((fa a).toInt) * ((fb b).toInt))) / 18446744073709551616)) j)))))]) hP hD [0, 3, 4] [1, 2] rfl rfl (by decide) (by decide) hk1 hFc hP1 hD1
                                      generalize H1 = H at hP hS ⊢
                                      have hP : va_P (dC, dI) vwCl [(ma, .inl (cI, 256, .inl fa)), (mb, .inl (cI, 256, .inl fb)), (mo, .inr (3, [.int (nI 0), .int (nI (2 ^ k)), .ref ma, .ref mb, .int (nI (2 ^ k)), .ref lo, .ref hi, .ref kp, .ref ot, .ref su])), (lo, .inl (cJ, 511, .inr (.inl (fun j => lI ((upI (accR (acc (zrL LW (2 ^ k)) 0 (2 ^ k) fa fb a) 0 (2 ^ k) fa fb a b) (a + b - (2 ^ k)) ((accR (acc (zrL LW (2 ^ k)) 0 (2 ^ k) fa fb a) 0 (2 ^ k) fa fb a b) (a + b - (2 ^ k)) + (((fa a).toInt) * ((fb b).toInt)))) j))))), (hi, .inl (cJ, 511, .inr (.inl (fun j => lI ((upI HQ (a + b - (2 ^ k)) (((accR (acc (zrL LW (2 ^ k)) 0 (2 ^ k) fa fb a) 0 (2 ^ k) fa fb a b) (a + b - (2 ^ k)) + (((fa a).toInt) * ((fb b).toInt))) / 18446744073709551616)) j)))))] H := hP
                                      have hD : va_D A [(ma, .inl (cI, 256, .inl fa)), (mb, .inl (cI, 256, .inl fb)), (mo, .inr (3, [.int (nI 0), .int (nI (2 ^ k)), .ref ma, .ref mb, .int (nI (2 ^ k)), .ref lo, .ref hi, .ref kp, .ref ot, .ref su])), (lo, .inl (cJ, 511, .inr (.inl (fun j => lI ((upI (accR (acc (zrL LW (2 ^ k)) 0 (2 ^ k) fa fb a) 0 (2 ^ k) fa fb a b) (a + b - (2 ^ k)) ((accR (acc (zrL LW (2 ^ k)) 0 (2 ^ k) fa fb a) 0 (2 ^ k) fa fb a b) (a + b - (2 ^ k)) + (((fa a).toInt) * ((fb b).toInt)))) j))))), (hi, .inl (cJ, 511, .inr (.inl (fun j => lI ((upI HQ (a + b - (2 ^ k)) (((accR (acc (zrL LW (2 ^ k)) 0 (2 ^ k) fa fb a) 0 (2 ^ k) fa fb a b) (a + b - (2 ^ k)) + (((fa a).toInt) * ((fb b).toInt))) / 18446744073709551616)) j)))))] := hD
                                      clear hPc hDc hKc hFc hP1 hD1 hk1 hz1 hvm ht
                                      clear hw
                                      have hH2 := hH_s (t := a + b - (2 ^ k)) (v := ((fa a).toInt) * ((fb b).toInt)) hH
                                      rw [accR_s (kd := 0) (n := 2 ^ k) (f := fa) (g := fb) (a := a) (b := b) (t := a + b - (2 ^ k)) (v := ((fa a).toInt) * ((fb b).toInt)) (if_pos (by omega)) (if_neg (by omega))] at hH2
                                      rw [show upI (accR (acc (zrL LW (2 ^ k)) 0 (2 ^ k) fa fb a) 0 (2 ^ k) fa fb a b) (a + b - (2 ^ k)) ((accR (acc (zrL LW (2 ^ k)) 0 (2 ^ k) fa fb a) 0 (2 ^ k) fa fb a b) (a + b - (2 ^ k)) + (((fa a).toInt) * ((fb b).toInt))) = accR (acc (zrL LW (2 ^ k)) 0 (2 ^ k) fa fb a) 0 (2 ^ k) fa fb a (b + 1) from accR_s (if_pos (by omega)) (if_neg (by omega))] at hP hD
                                      have hP : va_P (dC, dI) vwCl [(ma, .inl (cI, 256, .inl fa)), (mb, .inl (cI, 256, .inl fb)), (mo, .inr (3, [.int (nI 0), .int (nI (2 ^ k)), .ref ma, .ref mb, .int (nI (2 ^ k)), .ref lo, .ref hi, .ref kp, .ref ot, .ref su])), (lo, .inl (cJ, 511, .inr (.inl (fun j => lI ((accR (acc (zrL LW (2 ^ k)) 0 (2 ^ k) fa fb a) 0 (2 ^ k) fa fb a (b + 1)) j))))), (hi, .inl (cJ, 511, .inr (.inl (fun j => lI ((upI HQ (a + b - (2 ^ k)) (((accR (acc (zrL LW (2 ^ k)) 0 (2 ^ k) fa fb a) 0 (2 ^ k) fa fb a b) (a + b - (2 ^ k)) + (((fa a).toInt) * ((fb b).toInt))) / 18446744073709551616)) j)))))] H := hP
                                      have hD : va_D A [(ma, .inl (cI, 256, .inl fa)), (mb, .inl (cI, 256, .inl fb)), (mo, .inr (3, [.int (nI 0), .int (nI (2 ^ k)), .ref ma, .ref mb, .int (nI (2 ^ k)), .ref lo, .ref hi, .ref kp, .ref ot, .ref su])), (lo, .inl (cJ, 511, .inr (.inl (fun j => lI ((accR (acc (zrL LW (2 ^ k)) 0 (2 ^ k) fa fb a) 0 (2 ^ k) fa fb a (b + 1)) j))))), (hi, .inl (cJ, 511, .inr (.inl (fun j => lI ((upI HQ (a + b - (2 ^ k)) (((accR (acc (zrL LW (2 ^ k)) 0 (2 ^ k) fa fb a) 0 (2 ^ k) fa fb a b) (a + b - (2 ^ k)) + (((fa a).toInt) * ((fb b).toInt))) / 18446744073709551616)) j)))))] := hD
                                      refine lv_iinc (v := nI (b + 1)) (lv' := [(3, .int (nI (b + 1))), (6, .int (nI 1)), (4, .long (lI (((fa a).toInt) * ((fb b).toInt)))), (2, .int (nI a)), (1, .int (nI 0)), (0, .ref mo)]) hx hb dX4_fold_181 hl (k := 2) rfl (nI_add b 1) (by decide) rfl (fun ls hl => ?_)
                                      refine lv_goto (tgt := 93) hx hb dX4_fold_184 (by decide) ?_
                                      exact ih_93  (b + 1) (upI HQ (a + b - (2 ^ k)) (((accR (acc (zrL LW (2 ^ k)) 0 (2 ^ k) fa fb a) 0 (2 ^ k) fa fb a b) (a + b - (2 ^ k)) + (((fa a).toInt) * ((fb b).toInt))) / 18446744073709551616)) (by omega) (hH2) (by omega) _ _ _ (hP.sub [2, 0, 1, 3, 4] rfl) (hD.sub [2, 0, 1, 3, 4] (by decide) rfl) hS (lv_sub hl [0, 3, 4, 5] rfl)
                                    · have c_14 : 0 = 1 := (nI_eq (a := 0) (b := 1) (by omega) (by omega)).mp c_14
                                      omega
                      exact key_93 (2 ^ k + 1) 0 HQ (by omega) (hH) (by omega) _ _ _ (hP.sub [0, 1, 2, 3, 4] rfl) (hD.sub [0, 1, 2, 3, 4] (by decide) rfl) hS (lv_sub hl [0, 1, 2, 3] rfl)
                exact key_83 (2 ^ k + 1) 0 (zrL HW (2 ^ k)) (by omega) (zrL_h) (by omega) _ _ _ (hP.sub [0, 1, 2, 3, 4] rfl) (hD.sub [0, 1, 2, 3, 4] (by decide) rfl) hS (lv_sub hl [0, 1, 2] rfl)
              · have c_5 : ¬ (2 ^ k ≤ t) := fun zq9 => c_5 ((nI_leI (a := 2 ^ k) (b := t) (by omega) (by omega)).mpr zq9)
                refine lv_aload_n hx hb dX4_fold_61 rfl (lv_at hl 2 rfl) ?_
                refine va_get (D := (dC, dI)) (ci := 3) (v := .ref lo) (C := RX4) (T := TX4) (N := 10) hx hb hts (by decide +kernel) hown hK hP 0 rfl rfl 5 (by decide) (hts (.fieldLink RX4 20 "ThreePrimesModel" "low" "[J") (by decide +kernel)) (fun _ h9 => h9) rfl dX4_fold_62 ?_
                refine lv_iload_n hx hb dX4_fold_65 rfl (lv_at hl 0 rfl) ?_
                refine lv_lconst (v := lI 0) hx hb dX4_fold_66 (by decide) ?_
                refine va_last hx hb hK hP hD hS 3 1 rfl rfl (vp_in_nI (by omega) (by omega)) dX4_fold_67 (fun H locs hP hD hS => ?_)
                rw [nI_clamp (show t < 2 ^ 31 by omega)] at hP hD
                rw [upI_l] at hP hD
                have hP : va_P (dC, dI) vwCl [(mo, .inr (3, [.int (nI 0), .int (nI (2 ^ k)), .ref ma, .ref mb, .int (nI (2 ^ k)), .ref lo, .ref hi, .ref kp, .ref ot, .ref su])), (ma, .inl (cI, 256, .inl fa)), (mb, .inl (cI, 256, .inl fb)), (lo, .inl (cJ, 511, .inr (.inl (fun j => lI ((upI (zrL LW t) t 0) j))))), (hi, .inl (cJ, 511, .inr (.inl (fun j => lI ((zrL HW t) j)))))] H := hP
                have hD : va_D A [(mo, .inr (3, [.int (nI 0), .int (nI (2 ^ k)), .ref ma, .ref mb, .int (nI (2 ^ k)), .ref lo, .ref hi, .ref kp, .ref ot, .ref su])), (ma, .inl (cI, 256, .inl fa)), (mb, .inl (cI, 256, .inl fb)), (lo, .inl (cJ, 511, .inr (.inl (fun j => lI ((upI (zrL LW t) t 0) j))))), (hi, .inl (cJ, 511, .inr (.inl (fun j => lI ((zrL HW t) j)))))] := hD
                rw [show upI (zrL LW t) t 0 = zrL LW (t + 1) from zrL_s] at hP hD
                have hP : va_P (dC, dI) vwCl [(mo, .inr (3, [.int (nI 0), .int (nI (2 ^ k)), .ref ma, .ref mb, .int (nI (2 ^ k)), .ref lo, .ref hi, .ref kp, .ref ot, .ref su])), (ma, .inl (cI, 256, .inl fa)), (mb, .inl (cI, 256, .inl fb)), (lo, .inl (cJ, 511, .inr (.inl (fun j => lI ((zrL LW (t + 1)) j))))), (hi, .inl (cJ, 511, .inr (.inl (fun j => lI ((zrL HW t) j)))))] H := hP
                have hD : va_D A [(mo, .inr (3, [.int (nI 0), .int (nI (2 ^ k)), .ref ma, .ref mb, .int (nI (2 ^ k)), .ref lo, .ref hi, .ref kp, .ref ot, .ref su])), (ma, .inl (cI, 256, .inl fa)), (mb, .inl (cI, 256, .inl fb)), (lo, .inl (cJ, 511, .inr (.inl (fun j => lI ((zrL LW (t + 1)) j))))), (hi, .inl (cJ, 511, .inr (.inl (fun j => lI ((zrL HW t) j)))))] := hD
                refine lv_aload_n hx hb dX4_fold_68 rfl (lv_at hl 2 rfl) ?_
                refine va_get (D := (dC, dI)) (ci := 3) (v := .ref hi) (C := RX4) (T := TX4) (N := 10) hx hb hts (by decide +kernel) hown hK hP 0 rfl rfl 6 (by decide) (hts (.fieldLink RX4 24 "ThreePrimesModel" "high" "[J") (by decide +kernel)) (fun _ h9 => h9) rfl dX4_fold_69 ?_
                refine lv_iload_n hx hb dX4_fold_72 rfl (lv_at hl 0 rfl) ?_
                refine lv_lconst (v := lI 0) hx hb dX4_fold_73 (by decide) ?_
                refine va_last hx hb hK hP hD hS 4 1 rfl rfl (vp_in_nI (by omega) (by omega)) dX4_fold_74 (fun H locs hP hD hS => ?_)
                rw [nI_clamp (show t < 2 ^ 31 by omega)] at hP hD
                rw [upI_l] at hP hD
                have hP : va_P (dC, dI) vwCl [(mo, .inr (3, [.int (nI 0), .int (nI (2 ^ k)), .ref ma, .ref mb, .int (nI (2 ^ k)), .ref lo, .ref hi, .ref kp, .ref ot, .ref su])), (ma, .inl (cI, 256, .inl fa)), (mb, .inl (cI, 256, .inl fb)), (lo, .inl (cJ, 511, .inr (.inl (fun j => lI ((zrL LW (t + 1)) j))))), (hi, .inl (cJ, 511, .inr (.inl (fun j => lI ((upI (zrL HW t) t 0) j)))))] H := hP
                have hD : va_D A [(mo, .inr (3, [.int (nI 0), .int (nI (2 ^ k)), .ref ma, .ref mb, .int (nI (2 ^ k)), .ref lo, .ref hi, .ref kp, .ref ot, .ref su])), (ma, .inl (cI, 256, .inl fa)), (mb, .inl (cI, 256, .inl fb)), (lo, .inl (cJ, 511, .inr (.inl (fun j => lI ((zrL LW (t + 1)) j))))), (hi, .inl (cJ, 511, .inr (.inl (fun j => lI ((upI (zrL HW t) t 0) j)))))] := hD
                rw [show upI (zrL HW t) t 0 = zrL HW (t + 1) from zrL_s] at hP hD
                have hP : va_P (dC, dI) vwCl [(mo, .inr (3, [.int (nI 0), .int (nI (2 ^ k)), .ref ma, .ref mb, .int (nI (2 ^ k)), .ref lo, .ref hi, .ref kp, .ref ot, .ref su])), (ma, .inl (cI, 256, .inl fa)), (mb, .inl (cI, 256, .inl fb)), (lo, .inl (cJ, 511, .inr (.inl (fun j => lI ((zrL LW (t + 1)) j))))), (hi, .inl (cJ, 511, .inr (.inl (fun j => lI ((zrL HW (t + 1)) j)))))] H := hP
                have hD : va_D A [(mo, .inr (3, [.int (nI 0), .int (nI (2 ^ k)), .ref ma, .ref mb, .int (nI (2 ^ k)), .ref lo, .ref hi, .ref kp, .ref ot, .ref su])), (ma, .inl (cI, 256, .inl fa)), (mb, .inl (cI, 256, .inl fb)), (lo, .inl (cJ, 511, .inr (.inl (fun j => lI ((zrL LW (t + 1)) j))))), (hi, .inl (cJ, 511, .inr (.inl (fun j => lI ((zrL HW (t + 1)) j)))))] := hD
                refine lv_iinc (v := nI (t + 1)) (lv' := [(2, .int (nI (t + 1))), (1, .int (nI 0)), (0, .ref mo)]) hx hb dX4_fold_75 hl (k := 0) rfl (nI_add t 1) (by decide) rfl (fun ls hl => ?_)
                refine lv_goto (tgt := 53) hx hb dX4_fold_78 (by decide) ?_
                exact ih_53  (t + 1) (by omega) (by omega) _ _ _ (hP.sub [0, 1, 2, 3, 4] rfl) (hD.sub [0, 1, 2, 3, 4] (by decide) rfl) hS (lv_sub hl [0, 1, 2] rfl)
          exact key_53 (2 ^ k + 1) 0 (by omega) (by omega) _ _ _ (hP.sub [0, 1, 2, 3, 4] rfl) (hD.sub [0, 1, 2, 3, 4] (by decide) rfl) hS (lv_sub hl [0, 2, 1] rfl)
        · have c_4 : 0 = 2 := (nI_eq (a := 0) (b := 2) (by omega) (by omega)).mp c_4
          omega
      · have c_3 : ¬ (0 ≤ 0) := fun zq9 => c_3 ((nI_leI (a := 0) (b := 0) (by omega) (by omega)).mpr zq9)
        omega
    · have c_2 : ¬ (0 ≤ 2) := fun zq9 => c_2 ((nI_leI (a := 0) (b := 2) (by omega) (by omega)).mpr zq9)
      omega

abbrev q_X4_fold_1 (dC : Nat → ClassId) (dI : Nat → Nat → Nat) (mo ma mb lo hi kp ot su k rs : Nat) (tv : Int32) (cI cJ : ClassId) (fa fb : Nat → Int32) (LW HW : Nat → Int) (A : Nat → Prop) : Array Value → State → Outcome → State → Prop := va_Qi (fun (r : Int32) (u : Nat → Int) => r = nI (cntK 1 k) ∧ ∀ i, i < cntK 1 k → u i = acc (zrL LW (cntK 1 k)) 1 (2 ^ k) fa fb (2 ^ k) i / 18446744073709551616) (fun u t => va_P (dC, dI) vwCl [(mo, .inr (3, [.int (nI 0), .int (nI (2 ^ k)), .ref ma, .ref mb, .int (nI (cntK 1 k)), .ref lo, .ref hi, .ref kp, .ref ot, .ref su])), (ma, .inl (cI, 256, .inl fa)), (mb, .inl (cI, 256, .inl fb)), (lo, .inl (cJ, 511, .inr (.inl (fun j => lI ((acc (zrL LW (cntK 1 k)) 1 (2 ^ k) fa fb (2 ^ k)) j))))), (hi, .inl (cJ, 511, .inr (.inl (fun j => lI (u j)))))] t.heap ∧ va_D A [(mo, .inr (3, [.int (nI 0), .int (nI (2 ^ k)), .ref ma, .ref mb, .int (nI (cntK 1 k)), .ref lo, .ref hi, .ref kp, .ref ot, .ref su])), (ma, .inl (cI, 256, .inl fa)), (mb, .inl (cI, 256, .inl fb)), (lo, .inl (cJ, 511, .inr (.inl (fun j => lI ((acc (zrL LW (cntK 1 k)) 1 (2 ^ k) fa fb (2 ^ k)) j))))), (hi, .inl (cJ, 511, .inr (.inl (fun j => lI (u j)))))]) A
set_option maxHeartbeats 4000000 in
set_option maxRecDepth 100000 in
theorem c_X4_fold_1 (l : Launch) (dC : Nat → ClassId) (dI : Nat → Nat → Nat) (mo ma mb lo hi kp ot su k rs : Nat) (tv : Int32) (cI cJ : ClassId) (fa fb : Nat → Int32) (LW HW : Nat → Int) (sz : Nat) (zk1 : 1 ≤ k) (zk : k ≤ 8) : Met l yX4_fold wsX4_fold ({ frames := 1, cells := 0, slots := 0, locals := 26 }) (va_Pc [.ref mo, .int (nI 1)] (fun U => U.heap.size = sz ∧ va_P (dC, dI) vwCl [(mo, .inr (3, [.int tv, .int (nI (2 ^ k)), .ref ma, .ref mb, .int (nI rs), .ref lo, .ref hi, .ref kp, .ref ot, .ref su])), (ma, .inl (cI, 256, .inl fa)), (mb, .inl (cI, 256, .inl fb)), (lo, .inl (cJ, 511, .inr (.inl (fun j => lI (LW j))))), (hi, .inl (cJ, 511, .inr (.inl (fun j => lI (HW j)))))] U.heap ∧ va_K (dC, dI) vwCl [(cI, .int), (cJ, .long)] U ∧ va_D (fun _ => True) [(mo, .inr (3, [.int tv, .int (nI (2 ^ k)), .ref ma, .ref mb, .int (nI rs), .ref lo, .ref hi, .ref kp, .ref ot, .ref su])), (ma, .inl (cI, 256, .inl fa)), (mb, .inl (cI, 256, .inl fb)), (lo, .inl (cJ, 511, .inr (.inl (fun j => lI (LW j))))), (hi, .inl (cJ, 511, .inr (.inl (fun j => lI (HW j)))))])) (q_X4_fold_1 dC dI mo ma mb lo hi kp ot su k rs tv cI cJ fa fb LW HW (va_A [(mo, .inr (3, [.int tv, .int (nI (2 ^ k)), .ref ma, .ref mb, .int (nI rs), .ref lo, .ref hi, .ref kp, .ref ot, .ref su])), (ma, .inl (cI, 256, .inl fa)), (mb, .inl (cI, 256, .inl fb)), (lo, .inl (cJ, 511, .inr (.inl (fun j => lI (LW j))))), (hi, .inl (cJ, 511, .inr (.inl (fun j => lI (HW j)))))] sz)) 0 0 (va_A [(mo, .inr (3, [.int tv, .int (nI (2 ^ k)), .ref ma, .ref mb, .int (nI rs), .ref lo, .ref hi, .ref kp, .ref ot, .ref su])), (ma, .inl (cI, 256, .inl fa)), (mb, .inl (cI, 256, .inl fb)), (lo, .inl (cJ, 511, .inr (.inl (fun j => lI (LW j))))), (hi, .inl (cJ, 511, .inr (.inl (fun j => lI (HW j)))))] sz) := by
  refine Met.ofW (cc := cX4_fold) (maxL := 7) (ret := (some .int)) (by decide) rfl ?_
  intro p e s m args below meth c s₁ B hml hv
  obtain ⟨rfl, hsz, hP, hK, hD0⟩ := hv
  have hx := B.exec
  have hb := B.bytes
  have hr := B.returns
  have hts := atoms_spec (ws := wsX4_fold) B.pre
  have hown : s.vm.findClass RX4 = some m.cls := findClass_of_methodNamed B.named
  have hlocks := B.notSynchronized
  subst hsz
  have hD := hD0.self (sz := s.heap.size)
  generalize hAe : va_A [(mo, .inr (3, [.int tv, .int (nI (2 ^ k)), .ref ma, .ref mb, .int (nI rs), .ref lo, .ref hi, .ref kp, .ref ot, .ref su])), (ma, .inl (cI, 256, .inl fa)), (mb, .inl (cI, 256, .inl fb)), (lo, .inl (cJ, 511, .inr (.inl (fun j => lI (LW j))))), (hi, .inl (cJ, 511, .inr (.inl (fun j => lI (HW j)))))] s.heap.size = A at hD ⊢
  have hA : ∀ q : Nat, s.heap.size ≤ q → A q := fun q h => by rw [← hAe]; exact Or.inr h
  have hS : va_S A s.heap s.heap [] := va_S.rf
  have hP : va_P (dC, dI) vwCl [(mo, .inr (3, [.int tv, .int (nI (2 ^ k)), .ref ma, .ref mb, .int (nI rs), .ref lo, .ref hi, .ref kp, .ref ot, .ref su])), (ma, .inl (cI, 256, .inl fa)), (mb, .inl (cI, 256, .inl fb)), (lo, .inl (cJ, 511, .inr (.inl (fun j => lI (LW j))))), (hi, .inl (cJ, 511, .inr (.inl (fun j => lI (HW j)))))] s.heap := hP
  have hl := lv_entry (([.ref mo, .int (nI 1)] : List Value)) (n := 7) (Nat.le_of_ble_eq_true rfl)
  rw [lg_entry_eq]
  generalize (lg_sl (([.ref mo, .int (nI 1)] : List Value)) ++ List.replicate (7 - (lg_sl (([.ref mo, .int (nI 1)] : List Value))).length) Slot.unset).toArray = ls at hl ⊢
  have hl : lv_has ls 7 [(0, .ref mo), (1, .int (nI 1))] := hl
  obtain ⟨H, hHe⟩ : ∃ H : Heap, H = s.heap := ⟨_, rfl⟩
  rw [← hHe] at hP
  have hS : va_S A s.heap H [] := by rw [hHe]; exact hS
  obtain ⟨locs, hlo⟩ : ∃ L : List Loc, L = [] := ⟨_, rfl⟩
  rw [← hlo] at hS ⊢
  rw [← hHe]
  have hpk := pw8 zk
  refine lv_aload_n hx hb dX4_fold_0 rfl (lv_at hl 0 rfl) ?_
  refine lv_iload_n hx hb dX4_fold_1 rfl (lv_at hl 1 rfl) ?_
  refine lv_if_lt (tgt := 10) hx hb dX4_fold_2 (by decide) (fun c_1 => ?_) (fun c_1 => ?_)
  · have c_1 : 1 < 0 := (nI_ltI (a := 1) (b := 0) (by omega) (by omega)).mp c_1
    omega
  · have c_1 : ¬ (1 < 0) := fun zq9 => c_1 ((nI_ltI (a := 1) (b := 0) (by omega) (by omega)).mpr zq9)
    refine lv_iload_n hx hb dX4_fold_5 rfl (lv_at hl 1 rfl) ?_
    refine lv_iconst (v := nI 2) hx hb dX4_fold_6 (by decide) ?_
    refine lv_icmp_le (tgt := 14) hx hb dX4_fold_7 (by decide) (fun c_2 => ?_) (fun c_2 => ?_)
    · have c_2 : 1 ≤ 2 := (nI_leI (a := 1) (b := 2) (by omega) (by omega)).mp c_2
      refine lv_iconst (v := nI 0) hx hb dX4_fold_14 (by decide) ?_
      refine va_put (D := (dC, dI)) (ci := 3) (v := .int (nI 0)) (ty := .int) (C := RX4) (T := TX4) (N := 10) hx hb hts (by decide +kernel) tyX4 tyX4_ok nmX4 hown hK hP hD hS 0 rfl rfl 0 (by decide) (hts (.fieldLink RX4 36 "ThreePrimesModel" "thrown" "I") (by decide +kernel)) (fun _ h9 => h9) rfl (by decide +kernel) rfl rfl (Nat.le_of_ble_eq_true rfl) dX4_fold_15 (fun H locs hP hD hS => ?_)
      have hP : va_P (dC, dI) vwCl [(mo, .inr (3, [.int (nI 0), .int (nI (2 ^ k)), .ref ma, .ref mb, .int (nI rs), .ref lo, .ref hi, .ref kp, .ref ot, .ref su])), (ma, .inl (cI, 256, .inl fa)), (mb, .inl (cI, 256, .inl fb)), (lo, .inl (cJ, 511, .inr (.inl (fun j => lI (LW j))))), (hi, .inl (cJ, 511, .inr (.inl (fun j => lI (HW j)))))] H := hP
      have hD : va_D A [(mo, .inr (3, [.int (nI 0), .int (nI (2 ^ k)), .ref ma, .ref mb, .int (nI rs), .ref lo, .ref hi, .ref kp, .ref ot, .ref su])), (ma, .inl (cI, 256, .inl fa)), (mb, .inl (cI, 256, .inl fb)), (lo, .inl (cJ, 511, .inr (.inl (fun j => lI (LW j))))), (hi, .inl (cJ, 511, .inr (.inl (fun j => lI (HW j)))))] := hD
      refine lv_aload_n hx hb dX4_fold_18 rfl (lv_at hl 0 rfl) ?_
      refine va_get (D := (dC, dI)) (ci := 3) (v := .int (nI 0)) (C := RX4) (T := TX4) (N := 10) hx hb hts (by decide +kernel) hown hK hP 0 rfl rfl 0 (by decide) (hts (.fieldLink RX4 36 "ThreePrimesModel" "thrown" "I") (by decide +kernel)) (fun _ h9 => h9) rfl dX4_fold_19 ?_
      refine lv_if_le (tgt := 27) hx hb dX4_fold_22 (by decide) (fun c_3 => ?_) (fun c_3 => ?_)
      · have c_3 : 0 ≤ 0 := (nI_leI (a := 0) (b := 0) (by omega) (by omega)).mp c_3
        refine lv_aload_n hx hb dX4_fold_27 rfl (lv_at hl 0 rfl) ?_
        refine lv_iload_n hx hb dX4_fold_28 rfl (lv_at hl 1 rfl) ?_
        refine lv_iconst (v := nI 2) hx hb dX4_fold_29 (by decide) ?_
        refine lv_icmp_ne (tgt := 44) hx hb dX4_fold_30 (by decide) (fun c_4 => ?_) (fun c_4 => ?_)
        · have c_4 : ¬ (1 = 2) := fun zq9 => c_4 ((nI_eq (a := 1) (b := 2) (by omega) (by omega)).mpr zq9)
          refine lv_aload_n hx hb dX4_fold_44 rfl (lv_at hl 0 rfl) ?_
          refine va_get (D := (dC, dI)) (ci := 3) (v := .int (nI (2 ^ k))) (C := RX4) (T := TX4) (N := 10) hx hb hts (by decide +kernel) hown hK hP 0 rfl rfl 1 (by decide) (hts (.fieldLink RX4 7 "ThreePrimesModel" "n" "I") (by decide +kernel)) (fun _ h9 => h9) rfl dX4_fold_45 ?_
          refine va_put (D := (dC, dI)) (ci := 3) (v := .int (nI (2 ^ k))) (ty := .int) (C := RX4) (T := TX4) (N := 10) hx hb hts (by decide +kernel) tyX4 tyX4_ok nmX4 hown hK hP hD hS 0 rfl rfl 4 (by decide) (hts (.fieldLink RX4 39 "ThreePrimesModel" "results" "I") (by decide +kernel)) (fun _ h9 => h9) rfl (by decide +kernel) rfl rfl (Nat.le_of_ble_eq_true rfl) dX4_fold_48 (fun H locs hP hD hS => ?_)
          have hP : va_P (dC, dI) vwCl [(mo, .inr (3, [.int (nI 0), .int (nI (2 ^ k)), .ref ma, .ref mb, .int (nI (2 ^ k)), .ref lo, .ref hi, .ref kp, .ref ot, .ref su])), (ma, .inl (cI, 256, .inl fa)), (mb, .inl (cI, 256, .inl fb)), (lo, .inl (cJ, 511, .inr (.inl (fun j => lI (LW j))))), (hi, .inl (cJ, 511, .inr (.inl (fun j => lI (HW j)))))] H := hP
          have hD : va_D A [(mo, .inr (3, [.int (nI 0), .int (nI (2 ^ k)), .ref ma, .ref mb, .int (nI (2 ^ k)), .ref lo, .ref hi, .ref kp, .ref ot, .ref su])), (ma, .inl (cI, 256, .inl fa)), (mb, .inl (cI, 256, .inl fb)), (lo, .inl (cJ, 511, .inr (.inl (fun j => lI (LW j))))), (hi, .inl (cJ, 511, .inr (.inl (fun j => lI (HW j)))))] := hD
          refine lv_iconst (v := nI 0) hx hb dX4_fold_51 (by decide) ?_
          rw [show LW = zrL LW 0 from (zrL_0 _).symm] at hP hD
          have hP : va_P (dC, dI) vwCl [(mo, .inr (3, [.int (nI 0), .int (nI (2 ^ k)), .ref ma, .ref mb, .int (nI (2 ^ k)), .ref lo, .ref hi, .ref kp, .ref ot, .ref su])), (ma, .inl (cI, 256, .inl fa)), (mb, .inl (cI, 256, .inl fb)), (lo, .inl (cJ, 511, .inr (.inl (fun j => lI ((zrL LW 0) j))))), (hi, .inl (cJ, 511, .inr (.inl (fun j => lI (HW j)))))] H := hP
          have hD : va_D A [(mo, .inr (3, [.int (nI 0), .int (nI (2 ^ k)), .ref ma, .ref mb, .int (nI (2 ^ k)), .ref lo, .ref hi, .ref kp, .ref ot, .ref su])), (ma, .inl (cI, 256, .inl fa)), (mb, .inl (cI, 256, .inl fb)), (lo, .inl (cJ, 511, .inr (.inl (fun j => lI ((zrL LW 0) j))))), (hi, .inl (cJ, 511, .inr (.inl (fun j => lI (HW j)))))] := hD
          rw [show HW = zrL HW 0 from (zrL_0 _).symm] at hP hD
          have hP : va_P (dC, dI) vwCl [(mo, .inr (3, [.int (nI 0), .int (nI (2 ^ k)), .ref ma, .ref mb, .int (nI (2 ^ k)), .ref lo, .ref hi, .ref kp, .ref ot, .ref su])), (ma, .inl (cI, 256, .inl fa)), (mb, .inl (cI, 256, .inl fb)), (lo, .inl (cJ, 511, .inr (.inl (fun j => lI ((zrL LW 0) j))))), (hi, .inl (cJ, 511, .inr (.inl (fun j => lI ((zrL HW 0) j)))))] H := hP
          have hD : va_D A [(mo, .inr (3, [.int (nI 0), .int (nI (2 ^ k)), .ref ma, .ref mb, .int (nI (2 ^ k)), .ref lo, .ref hi, .ref kp, .ref ot, .ref su])), (ma, .inl (cI, 256, .inl fa)), (mb, .inl (cI, 256, .inl fb)), (lo, .inl (cJ, 511, .inr (.inl (fun j => lI ((zrL LW 0) j))))), (hi, .inl (cJ, 511, .inr (.inl (fun j => lI ((zrL HW 0) j)))))] := hD
          refine lv_istore_n (lv' := [(2, .int (nI 0)), (0, .ref mo), (1, .int (nI 1))]) hx hb dX4_fold_52 rfl hl (by decide) rfl (fun ls hl => ?_)
          have key_53 : ∀ (fuel : Nat) (t : Nat), (t ≤ 2 ^ k) → (2 ^ k - t < fuel) → ∀ (H : Heap) (locs : List Loc) (ls : Array Slot), va_P (dC, dI) vwCl [(mo, .inr (3, [.int (nI 0), .int (nI (2 ^ k)), .ref ma, .ref mb, .int (nI (2 ^ k)), .ref lo, .ref hi, .ref kp, .ref ot, .ref su])), (ma, .inl (cI, 256, .inl fa)), (mb, .inl (cI, 256, .inl fb)), (lo, .inl (cJ, 511, .inr (.inl (fun j => lI ((zrL LW t) j))))), (hi, .inl (cJ, 511, .inr (.inl (fun j => lI ((zrL HW t) j)))))] H → va_D A [(mo, .inr (3, [.int (nI 0), .int (nI (2 ^ k)), .ref ma, .ref mb, .int (nI (2 ^ k)), .ref lo, .ref hi, .ref kp, .ref ot, .ref su])), (ma, .inl (cI, 256, .inl fa)), (mb, .inl (cI, 256, .inl fb)), (lo, .inl (cJ, 511, .inr (.inl (fun j => lI ((zrL LW t) j))))), (hi, .inl (cJ, 511, .inr (.inl (fun j => lI ((zrL HW t) j)))))] → va_S A s.heap H locs → lv_has ls 7 [(2, .int (nI t)), (1, .int (nI 1)), (0, .ref mo)] → W p l e (headSpec wsX4_fold { frames := 1, cells := 0, slots := 0, locals := 26 }).room s m ([.ref mo, .int (nI 1)] : List Value).toArray below meth c H locs 0 0 (MQ below (q_X4_fold_1 dC dI mo ma mb lo hi kp ot su k rs tv cI cJ fa fb LW HW  A) ([.ref mo, .int (nI 1)] : List Value).toArray s 0 0 A) (F0 m 53 ls []) := by
            intro fuel
            induction fuel with
            | zero => intro t; intros; omega
            | succ fuel ih_53 =>
              intro t ht hfu H locs ls hP hD hS hl
              refine lv_iload_n hx hb dX4_fold_53 rfl (lv_at hl 0 rfl) ?_
              refine lv_aload_n hx hb dX4_fold_54 rfl (lv_at hl 2 rfl) ?_
              refine va_get (D := (dC, dI)) (ci := 3) (v := .int (nI (2 ^ k))) (C := RX4) (T := TX4) (N := 10) hx hb hts (by decide +kernel) hown hK hP 0 rfl rfl 4 (by decide) (hts (.fieldLink RX4 39 "ThreePrimesModel" "results" "I") (by decide +kernel)) (fun _ h9 => h9) rfl dX4_fold_55 ?_
              refine lv_icmp_ge (tgt := 81) hx hb dX4_fold_58 (by decide) (fun c_5 => ?_) (fun c_5 => ?_)
              · have c_5 : 2 ^ k ≤ t := (nI_leI (a := 2 ^ k) (b := t) (by omega) (by omega)).mp c_5
                refine lv_iconst (v := nI 0) hx hb dX4_fold_81 (by decide) ?_
                rw [show zrL LW t = acc (zrL LW (2 ^ k)) 1 (2 ^ k) fa fb 0 from by rw [show t = 2 ^ k by omega]; rfl] at hP hD
                have hP : va_P (dC, dI) vwCl [(mo, .inr (3, [.int (nI 0), .int (nI (2 ^ k)), .ref ma, .ref mb, .int (nI (2 ^ k)), .ref lo, .ref hi, .ref kp, .ref ot, .ref su])), (ma, .inl (cI, 256, .inl fa)), (mb, .inl (cI, 256, .inl fb)), (lo, .inl (cJ, 511, .inr (.inl (fun j => lI ((acc (zrL LW (2 ^ k)) 1 (2 ^ k) fa fb 0) j))))), (hi, .inl (cJ, 511, .inr (.inl (fun j => lI ((zrL HW t) j)))))] H := hP
                have hD : va_D A [(mo, .inr (3, [.int (nI 0), .int (nI (2 ^ k)), .ref ma, .ref mb, .int (nI (2 ^ k)), .ref lo, .ref hi, .ref kp, .ref ot, .ref su])), (ma, .inl (cI, 256, .inl fa)), (mb, .inl (cI, 256, .inl fb)), (lo, .inl (cJ, 511, .inr (.inl (fun j => lI ((acc (zrL LW (2 ^ k)) 1 (2 ^ k) fa fb 0) j))))), (hi, .inl (cJ, 511, .inr (.inl (fun j => lI ((zrL HW t) j)))))] := hD
                rw [show zrL HW t = zrL HW (2 ^ k) from by rw [show t = 2 ^ k by omega]] at hP hD
                have hP : va_P (dC, dI) vwCl [(mo, .inr (3, [.int (nI 0), .int (nI (2 ^ k)), .ref ma, .ref mb, .int (nI (2 ^ k)), .ref lo, .ref hi, .ref kp, .ref ot, .ref su])), (ma, .inl (cI, 256, .inl fa)), (mb, .inl (cI, 256, .inl fb)), (lo, .inl (cJ, 511, .inr (.inl (fun j => lI ((acc (zrL LW (2 ^ k)) 1 (2 ^ k) fa fb 0) j))))), (hi, .inl (cJ, 511, .inr (.inl (fun j => lI ((zrL HW (2 ^ k)) j)))))] H := hP
                have hD : va_D A [(mo, .inr (3, [.int (nI 0), .int (nI (2 ^ k)), .ref ma, .ref mb, .int (nI (2 ^ k)), .ref lo, .ref hi, .ref kp, .ref ot, .ref su])), (ma, .inl (cI, 256, .inl fa)), (mb, .inl (cI, 256, .inl fb)), (lo, .inl (cJ, 511, .inr (.inl (fun j => lI ((acc (zrL LW (2 ^ k)) 1 (2 ^ k) fa fb 0) j))))), (hi, .inl (cJ, 511, .inr (.inl (fun j => lI ((zrL HW (2 ^ k)) j)))))] := hD
                refine lv_istore_n (lv' := [(2, .int (nI 0)), (1, .int (nI 1)), (0, .ref mo)]) hx hb dX4_fold_82 rfl hl (by decide) rfl (fun ls hl => ?_)
                have key_83 : ∀ (fuel : Nat) (a : Nat) (HQ : Nat → Int), (a ≤ 2 ^ k) → (∀ i, i < 2 ^ k → HQ i = (acc (zrL LW (2 ^ k)) 1 (2 ^ k) fa fb a) i / 18446744073709551616) → (2 ^ k - a < fuel) → ∀ (H : Heap) (locs : List Loc) (ls : Array Slot), va_P (dC, dI) vwCl [(mo, .inr (3, [.int (nI 0), .int (nI (2 ^ k)), .ref ma, .ref mb, .int (nI (2 ^ k)), .ref lo, .ref hi, .ref kp, .ref ot, .ref su])), (ma, .inl (cI, 256, .inl fa)), (mb, .inl (cI, 256, .inl fb)), (lo, .inl (cJ, 511, .inr (.inl (fun j => lI ((acc (zrL LW (2 ^ k)) 1 (2 ^ k) fa fb a) j))))), (hi, .inl (cJ, 511, .inr (.inl (fun j => lI (HQ j)))))] H → va_D A [(mo, .inr (3, [.int (nI 0), .int (nI (2 ^ k)), .ref ma, .ref mb, .int (nI (2 ^ k)), .ref lo, .ref hi, .ref kp, .ref ot, .ref su])), (ma, .inl (cI, 256, .inl fa)), (mb, .inl (cI, 256, .inl fb)), (lo, .inl (cJ, 511, .inr (.inl (fun j => lI ((acc (zrL LW (2 ^ k)) 1 (2 ^ k) fa fb a) j))))), (hi, .inl (cJ, 511, .inr (.inl (fun j => lI (HQ j)))))] → va_S A s.heap H locs → lv_has ls 7 [(2, .int (nI a)), (1, .int (nI 1)), (0, .ref mo)] → W p l e (headSpec wsX4_fold { frames := 1, cells := 0, slots := 0, locals := 26 }).room s m ([.ref mo, .int (nI 1)] : List Value).toArray below meth c H locs 0 0 (MQ below (q_X4_fold_1 dC dI mo ma mb lo hi kp ot su k rs tv cI cJ fa fb LW HW  A) ([.ref mo, .int (nI 1)] : List Value).toArray s 0 0 A) (F0 m 83 ls []) := by
                  intro fuel
                  induction fuel with
                  | zero => intro a HQ; intros; omega
                  | succ fuel ih_83 =>
                    intro a HQ ha hH hfu H locs ls hP hD hS hl
                    refine lv_iload_n hx hb dX4_fold_83 rfl (lv_at hl 0 rfl) ?_
                    refine lv_aload_n hx hb dX4_fold_84 rfl (lv_at hl 2 rfl) ?_
                    refine va_get (D := (dC, dI)) (ci := 3) (v := .int (nI (2 ^ k))) (C := RX4) (T := TX4) (N := 10) hx hb hts (by decide +kernel) hown hK hP 0 rfl rfl 1 (by decide) (hts (.fieldLink RX4 7 "ThreePrimesModel" "n" "I") (by decide +kernel)) (fun _ h9 => h9) rfl dX4_fold_85 ?_
                    refine lv_icmp_ge (tgt := 193) hx hb dX4_fold_88 (by decide) (fun c_6 => ?_) (fun c_6 => ?_)
                    · have c_6 : 2 ^ k ≤ a := (nI_leI (a := 2 ^ k) (b := a) (by omega) (by omega)).mp c_6
                      refine lv_aload_n hx hb dX4_fold_193 rfl (lv_at hl 2 rfl) ?_
                      refine va_get (D := (dC, dI)) (ci := 3) (v := .int (nI (2 ^ k))) (C := RX4) (T := TX4) (N := 10) hx hb hts (by decide +kernel) hown hK hP 0 rfl rfl 4 (by decide) (hts (.fieldLink RX4 39 "ThreePrimesModel" "results" "I") (by decide +kernel)) (fun _ h9 => h9) rfl dX4_fold_194 ?_
                      rw [show a = 2 ^ k by omega] at hP hD hH
                      have hP : va_P (dC, dI) vwCl [(mo, .inr (3, [.int (nI 0), .int (nI (2 ^ k)), .ref ma, .ref mb, .int (nI (2 ^ k)), .ref lo, .ref hi, .ref kp, .ref ot, .ref su])), (ma, .inl (cI, 256, .inl fa)), (mb, .inl (cI, 256, .inl fb)), (lo, .inl (cJ, 511, .inr (.inl (fun j => lI ((acc (zrL LW (cntK 1 k)) 1 (2 ^ k) fa fb (2 ^ k)) j))))), (hi, .inl (cJ, 511, .inr (.inl (fun j => lI (HQ j)))))] H := hP
                      have hD : va_D A [(mo, .inr (3, [.int (nI 0), .int (nI (2 ^ k)), .ref ma, .ref mb, .int (nI (2 ^ k)), .ref lo, .ref hi, .ref kp, .ref ot, .ref su])), (ma, .inl (cI, 256, .inl fa)), (mb, .inl (cI, 256, .inl fb)), (lo, .inl (cJ, 511, .inr (.inl (fun j => lI ((acc (zrL LW (cntK 1 k)) 1 (2 ^ k) fa fb (2 ^ k)) j))))), (hi, .inl (cJ, 511, .inr (.inl (fun j => lI (HQ j)))))] := hD
                      have hP9 : va_P (dC, dI) vwCl [(mo, .inr (3, [.int (nI 0), .int (nI (2 ^ k)), .ref ma, .ref mb, .int (nI (cntK 1 k)), .ref lo, .ref hi, .ref kp, .ref ot, .ref su])), (ma, .inl (cI, 256, .inl fa)), (mb, .inl (cI, 256, .inl fb)), (lo, .inl (cJ, 511, .inr (.inl (fun j => lI ((acc (zrL LW (cntK 1 k)) 1 (2 ^ k) fa fb (2 ^ k)) j))))), (hi, .inl (cJ, 511, .inr (.inl (fun j => lI (HQ j)))))] H := hP.sub [0, 1, 2, 3, 4] rfl
                      have hD9 : va_D A [(mo, .inr (3, [.int (nI 0), .int (nI (2 ^ k)), .ref ma, .ref mb, .int (nI (cntK 1 k)), .ref lo, .ref hi, .ref kp, .ref ot, .ref su])), (ma, .inl (cI, 256, .inl fa)), (mb, .inl (cI, 256, .inl fb)), (lo, .inl (cJ, 511, .inr (.inl (fun j => lI ((acc (zrL LW (cntK 1 k)) 1 (2 ^ k) fa fb (2 ^ k)) j))))), (hi, .inl (cJ, 511, .inr (.inl (fun j => lI (HQ j)))))] := hD.sub [0, 1, 2, 3, 4] (by decide) rfl
                      exact W.iret (v := nI (2 ^ k)) hx hb hr (fun tq9 ht hW => ⟨⟨nI (2 ^ k), HQ, rfl, ⟨rfl, hH⟩, by rw [ht]; exact hP9, hD9⟩, hS.F ht⟩) hS.2.2 dX4_fold_197
                    · have c_6 : ¬ (2 ^ k ≤ a) := fun zq9 => c_6 ((nI_leI (a := 2 ^ k) (b := a) (by omega) (by omega)).mpr zq9)
                      refine lv_iconst (v := nI 0) hx hb dX4_fold_91 (by decide) ?_
                      rw [show acc (zrL LW (2 ^ k)) 1 (2 ^ k) fa fb a = accR (acc (zrL LW (2 ^ k)) 1 (2 ^ k) fa fb a) 1 (2 ^ k) fa fb a 0 from rfl] at hP hD
                      have hP : va_P (dC, dI) vwCl [(mo, .inr (3, [.int (nI 0), .int (nI (2 ^ k)), .ref ma, .ref mb, .int (nI (2 ^ k)), .ref lo, .ref hi, .ref kp, .ref ot, .ref su])), (ma, .inl (cI, 256, .inl fa)), (mb, .inl (cI, 256, .inl fb)), (lo, .inl (cJ, 511, .inr (.inl (fun j => lI ((accR (acc (zrL LW (2 ^ k)) 1 (2 ^ k) fa fb a) 1 (2 ^ k) fa fb a 0) j))))), (hi, .inl (cJ, 511, .inr (.inl (fun j => lI (HQ j)))))] H := hP
                      have hD : va_D A [(mo, .inr (3, [.int (nI 0), .int (nI (2 ^ k)), .ref ma, .ref mb, .int (nI (2 ^ k)), .ref lo, .ref hi, .ref kp, .ref ot, .ref su])), (ma, .inl (cI, 256, .inl fa)), (mb, .inl (cI, 256, .inl fb)), (lo, .inl (cJ, 511, .inr (.inl (fun j => lI ((accR (acc (zrL LW (2 ^ k)) 1 (2 ^ k) fa fb a) 1 (2 ^ k) fa fb a 0) j))))), (hi, .inl (cJ, 511, .inr (.inl (fun j => lI (HQ j)))))] := hD
                      refine lv_istore_n (lv' := [(3, .int (nI 0)), (2, .int (nI a)), (1, .int (nI 1)), (0, .ref mo)]) hx hb dX4_fold_92 rfl hl (by decide) rfl (fun ls hl => ?_)
                      have key_93 : ∀ (fuel : Nat) (b : Nat) (HQ : Nat → Int), (b ≤ 2 ^ k) → (∀ i, i < 2 ^ k → HQ i = (accR (acc (zrL LW (2 ^ k)) 1 (2 ^ k) fa fb a) 1 (2 ^ k) fa fb a b) i / 18446744073709551616) → (2 ^ k - b < fuel) → ∀ (H : Heap) (locs : List Loc) (ls : Array Slot), va_P (dC, dI) vwCl [(mo, .inr (3, [.int (nI 0), .int (nI (2 ^ k)), .ref ma, .ref mb, .int (nI (2 ^ k)), .ref lo, .ref hi, .ref kp, .ref ot, .ref su])), (ma, .inl (cI, 256, .inl fa)), (mb, .inl (cI, 256, .inl fb)), (lo, .inl (cJ, 511, .inr (.inl (fun j => lI ((accR (acc (zrL LW (2 ^ k)) 1 (2 ^ k) fa fb a) 1 (2 ^ k) fa fb a b) j))))), (hi, .inl (cJ, 511, .inr (.inl (fun j => lI (HQ j)))))] H → va_D A [(mo, .inr (3, [.int (nI 0), .int (nI (2 ^ k)), .ref ma, .ref mb, .int (nI (2 ^ k)), .ref lo, .ref hi, .ref kp, .ref ot, .ref su])), (ma, .inl (cI, 256, .inl fa)), (mb, .inl (cI, 256, .inl fb)), (lo, .inl (cJ, 511, .inr (.inl (fun j => lI ((accR (acc (zrL LW (2 ^ k)) 1 (2 ^ k) fa fb a) 1 (2 ^ k) fa fb a b) j))))), (hi, .inl (cJ, 511, .inr (.inl (fun j => lI (HQ j)))))] → va_S A s.heap H locs → lv_has ls 7 [(3, .int (nI b)), (2, .int (nI a)), (1, .int (nI 1)), (0, .ref mo)] → W p l e (headSpec wsX4_fold { frames := 1, cells := 0, slots := 0, locals := 26 }).room s m ([.ref mo, .int (nI 1)] : List Value).toArray below meth c H locs 0 0 (MQ below (q_X4_fold_1 dC dI mo ma mb lo hi kp ot su k rs tv cI cJ fa fb LW HW  A) ([.ref mo, .int (nI 1)] : List Value).toArray s 0 0 A) (F0 m 93 ls []) := by
                        intro fuel
                        induction fuel with
                        | zero => intro b HQ; intros; omega
                        | succ fuel ih_93 =>
                          intro b HQ hb9 hH hfu H locs ls hP hD hS hl
                          refine lv_iload_n hx hb dX4_fold_93 rfl (lv_at hl 0 rfl) ?_
                          refine lv_aload_n hx hb dX4_fold_94 rfl (lv_at hl 3 rfl) ?_
                          refine va_get (D := (dC, dI)) (ci := 3) (v := .int (nI (2 ^ k))) (C := RX4) (T := TX4) (N := 10) hx hb hts (by decide +kernel) hown hK hP 0 rfl rfl 1 (by decide) (hts (.fieldLink RX4 7 "ThreePrimesModel" "n" "I") (by decide +kernel)) (fun _ h9 => h9) rfl dX4_fold_95 ?_
                          refine lv_icmp_ge (tgt := 187) hx hb dX4_fold_98 (by decide) (fun c_7 => ?_) (fun c_7 => ?_)
                          · have c_7 : 2 ^ k ≤ b := (nI_leI (a := 2 ^ k) (b := b) (by omega) (by omega)).mp c_7
                            rw [show accR (acc (zrL LW (2 ^ k)) 1 (2 ^ k) fa fb a) 1 (2 ^ k) fa fb a b = acc (zrL LW (2 ^ k)) 1 (2 ^ k) fa fb (a + 1) from by rw [show b = 2 ^ k by omega]; rfl] at hP hD
                            have hP : va_P (dC, dI) vwCl [(mo, .inr (3, [.int (nI 0), .int (nI (2 ^ k)), .ref ma, .ref mb, .int (nI (2 ^ k)), .ref lo, .ref hi, .ref kp, .ref ot, .ref su])), (ma, .inl (cI, 256, .inl fa)), (mb, .inl (cI, 256, .inl fb)), (lo, .inl (cJ, 511, .inr (.inl (fun j => lI ((acc (zrL LW (2 ^ k)) 1 (2 ^ k) fa fb (a + 1)) j))))), (hi, .inl (cJ, 511, .inr (.inl (fun j => lI (HQ j)))))] H := hP
                            have hD : va_D A [(mo, .inr (3, [.int (nI 0), .int (nI (2 ^ k)), .ref ma, .ref mb, .int (nI (2 ^ k)), .ref lo, .ref hi, .ref kp, .ref ot, .ref su])), (ma, .inl (cI, 256, .inl fa)), (mb, .inl (cI, 256, .inl fb)), (lo, .inl (cJ, 511, .inr (.inl (fun j => lI ((acc (zrL LW (2 ^ k)) 1 (2 ^ k) fa fb (a + 1)) j))))), (hi, .inl (cJ, 511, .inr (.inl (fun j => lI (HQ j)))))] := hD
                            refine lv_iinc (v := nI (a + 1)) (lv' := [(2, .int (nI (a + 1))), (3, .int (nI b)), (1, .int (nI 1)), (0, .ref mo)]) hx hb dX4_fold_187 hl (k := 1) rfl (nI_add a 1) (by decide) rfl (fun ls hl => ?_)
                            refine lv_goto (tgt := 83) hx hb dX4_fold_190 (by decide) ?_
                            exact ih_83  (a + 1) HQ (by omega) (by rw [show b = 2 ^ k by omega] at hH; exact hH) (by omega) _ _ _ (hP.sub [0, 1, 2, 3, 4] rfl) (hD.sub [0, 1, 2, 3, 4] (by decide) rfl) hS (lv_sub hl [0, 2, 3] rfl)
                          · have c_7 : ¬ (2 ^ k ≤ b) := fun zq9 => c_7 ((nI_leI (a := 2 ^ k) (b := b) (by omega) (by omega)).mpr zq9)
                            have mb9 := mul_i32 (fa a) (fb b)
                            refine lv_aload_n hx hb dX4_fold_101 rfl (lv_at hl 3 rfl) ?_
                            refine va_get (D := (dC, dI)) (ci := 3) (v := .ref ma) (C := RX4) (T := TX4) (N := 10) hx hb hts (by decide +kernel) hown hK hP 0 rfl rfl 2 (by decide) (hts (.fieldLink RX4 13 "ThreePrimesModel" "a" "[I") (by decide +kernel)) (fun _ h9 => h9) rfl dX4_fold_102 ?_
                            refine lv_iload_n hx hb dX4_fold_105 rfl (lv_at hl 1 rfl) ?_
                            refine va_iald hx hb hK hP 1 0 rfl rfl (vp_in_nI (by omega) (by omega)) dX4_fold_106 ?_
                            refine W.eq (g2 := F0 m _ ls [.int (fa a)]) (by rw [nI_clamp (by omega)]) ?_
                            refine lv_i2l (v := lI ((fa a).toInt)) hx hb dX4_fold_107 (i2l_I (fa a)) ?_
                            refine lv_aload_n hx hb dX4_fold_108 rfl (lv_at hl 3 rfl) ?_
                            refine va_get (D := (dC, dI)) (ci := 3) (v := .ref mb) (C := RX4) (T := TX4) (N := 10) hx hb hts (by decide +kernel) hown hK hP 0 rfl rfl 3 (by decide) (hts (.fieldLink RX4 17 "ThreePrimesModel" "b" "[I") (by decide +kernel)) (fun _ h9 => h9) rfl dX4_fold_109 ?_
                            refine lv_iload_n hx hb dX4_fold_112 rfl (lv_at hl 0 rfl) ?_
                            refine va_iald hx hb hK hP 2 0 rfl rfl (vp_in_nI (by omega) (by omega)) dX4_fold_113 ?_
                            refine W.eq (g2 := F0 m _ ls [.int (fb b), .long (lI ((fa a).toInt))]) (by rw [nI_clamp (by omega)]) ?_
                            refine lv_i2l (v := lI ((fb b).toInt)) hx hb dX4_fold_114 (i2l_I (fb b)) ?_
                            refine lv_lmul hx hb dX4_fold_115 ?_
                            refine W.eq (congrArg (fun z => F0 m _ ls (.long z :: _)) (show lI ((fa a).toInt) * lI ((fb b).toInt) = lI (((fa a).toInt) * ((fb b).toInt)) from lI_mul ((fa a).toInt) ((fb b).toInt))) ?_
                            refine lv_lstore (lv' := [(4, .long (lI (((fa a).toInt) * ((fb b).toInt)))), (3, .int (nI b)), (2, .int (nI a)), (1, .int (nI 1)), (0, .ref mo)]) hx hb dX4_fold_116 hl (by decide) rfl (fun ls hl => ?_)
                            refine lv_iload_n hx hb dX4_fold_118 rfl (lv_at hl 3 rfl) ?_
                            refine lv_iconst (v := nI 2) hx hb dX4_fold_119 (by decide) ?_
                            refine lv_icmp_ge (tgt := 137) hx hb dX4_fold_120 (by decide) (fun c_8 => ?_) (fun c_8 => ?_)
                            · have c_8 : 2 ≤ 1 := (nI_leI (a := 2) (b := 1) (by omega) (by omega)).mp c_8
                              omega
                            · have c_8 : ¬ (2 ≤ 1) := fun zq9 => c_8 ((nI_leI (a := 2) (b := 1) (by omega) (by omega)).mpr zq9)
                              refine lv_iload_n hx hb dX4_fold_123 rfl (lv_at hl 2 rfl) ?_
                              refine lv_iload_n hx hb dX4_fold_124 rfl (lv_at hl 1 rfl) ?_
                              refine lv_iadd hx hb dX4_fold_125 ?_
                              refine W.eq (congrArg (fun z => F0 m _ ls (.int z :: _)) (show (nI a) + (nI b) = nI (a + b) from nI_add a b)) ?_
                              refine lv_aload_n hx hb dX4_fold_126 rfl (lv_at hl 4 rfl) ?_
                              refine va_get (D := (dC, dI)) (ci := 3) (v := .int (nI (2 ^ k))) (C := RX4) (T := TX4) (N := 10) hx hb hts (by decide +kernel) hown hK hP 0 rfl rfl 1 (by decide) (hts (.fieldLink RX4 7 "ThreePrimesModel" "n" "I") (by decide +kernel)) (fun _ h9 => h9) rfl dX4_fold_127 ?_
                              refine lv_icmp_lt (tgt := 137) hx hb dX4_fold_130 (by decide) (fun c_9 => ?_) (fun c_9 => ?_)
                              · have c_9 : a + b < 2 ^ k := (nI_ltI (a := a + b) (b := 2 ^ k) (by omega) (by omega)).mp c_9
                                refine lv_iconst (v := nI 0) hx hb dX4_fold_137 (by decide) ?_
                                refine lv_istore (lv' := [(6, .int (nI 0)), (4, .long (lI (((fa a).toInt) * ((fb b).toInt)))), (3, .int (nI b)), (2, .int (nI a)), (1, .int (nI 1)), (0, .ref mo)]) hx hb dX4_fold_138 hl (by decide) rfl (fun ls hl => ?_)
                                refine lv_aload_n hx hb dX4_fold_140 rfl (lv_at hl 5 rfl) ?_
                                refine lv_iload hx hb dX4_fold_141 (lv_at hl 0 rfl) ?_
                                refine lv_if_eq (tgt := 157) hx hb dX4_fold_143 (by decide) (fun c_10 => ?_) (fun c_10 => ?_)
                                · have c_10 : 0 = 0 := (nI_eq (a := 0) (b := 0) (by omega) (by omega)).mp c_10
                                  refine lv_iload_n hx hb dX4_fold_157 rfl (lv_at hl 3 rfl) ?_
                                  refine lv_iload_n hx hb dX4_fold_158 rfl (lv_at hl 2 rfl) ?_
                                  refine lv_iadd hx hb dX4_fold_159 ?_
                                  refine W.eq (congrArg (fun z => F0 m _ ls (.int z :: _)) (show (nI a) + (nI b) = nI (a + b) from nI_add a b)) ?_
                                  refine lv_iload hx hb dX4_fold_160 (lv_at hl 0 rfl) ?_
                                  refine lv_if_eq (tgt := 176) hx hb dX4_fold_162 (by decide) (fun c_11 => ?_) (fun c_11 => ?_)
                                  · have c_11 : 0 = 0 := (nI_eq (a := 0) (b := 0) (by omega) (by omega)).mp c_11
                                    refine lv_lload hx hb dX4_fold_176 (lv_at hl 1 rfl) ?_
                                    have hPc := hP.sub (ws' := [(mo, .inr (3, [.int (nI 0), .int (nI (2 ^ k)), .ref ma, .ref mb, .int (nI (2 ^ k)), .ref lo, .ref hi, .ref kp, .ref ot, .ref su])), (lo, .inl (cJ, 511, .inr (.inl (fun j => lI ((accR (acc (zrL LW (2 ^ k)) 1 (2 ^ k) fa fb a) 1 (2 ^ k) fa fb a b) j))))), (hi, .inl (cJ, 511, .inr (.inl (fun j => lI (HQ j)))))]) [0, 3, 4] rfl
                                    have hDc := hD.sub (ws' := [(mo, .inr (3, [.int (nI 0), .int (nI (2 ^ k)), .ref ma, .ref mb, .int (nI (2 ^ k)), .ref lo, .ref hi, .ref kp, .ref ot, .ref su])), (lo, .inl (cJ, 511, .inr (.inl (fun j => lI ((accR (acc (zrL LW (2 ^ k)) 1 (2 ^ k) fa fb a) 1 (2 ^ k) fa fb a b) j))))), (hi, .inl (cJ, 511, .inr (.inl (fun j => lI (HQ j)))))]) [0, 3, 4] (by decide) rfl
                                    have hKc := hK.sub (tys' := [(cJ, .long)]) [1] rfl
                                    have hFc := va_free (wc := [(mo, .inr (3, [.int (nI 0), .int (nI (2 ^ k)), .ref ma, .ref mb, .int (nI (2 ^ k)), .ref lo, .ref hi, .ref kp, .ref ot, .ref su])), (lo, .inl (cJ, 511, .inr (.inl (fun j => lI ((accR (acc (zrL LW (2 ^ k)) 1 (2 ^ k) fa fb a) 1 (2 ^ k) fa fb a b) j))))), (hi, .inl (cJ, 511, .inr (.inl (fun j => lI (HQ j)))))]) hD hS hA [0, 3, 4] rfl
                                    refine va_callv (va_runV (As := [.int (nI (a + b)), .long (lI (((fa a).toInt) * ((fb b).toInt)))]) (rest := []) ⟨hx, hb, hml, hown, hts⟩ (c_X4_add l dC dI mo ma mb lo hi kp ot su k (2 ^ k) (nI 0) cJ (accR (acc (zrL LW (2 ^ k)) 1 (2 ^ k) fa fb a) 1 (2 ^ k) fa fb a b) HQ (a + b) (((fa a).toInt) * ((fb b).toInt)) H.size (by omega) (by omega) (by omega) (hH _ (by omega))) (cwV 2 hts gX4_fold_X4_add rfl rfl rfl (by decide +kernel) ⟨Nat.le_of_ble_eq_true rfl, Nat.le_of_ble_eq_true rfl⟩) ⟨fun a U g mk q => by obtain ⟨q0, q1, qP, qK, qD⟩ := q; exact ⟨q0, q1, qP, va_K.moved (u := U) (U := U.calling g mk a) (Vm.Alike.refl U.vm) qK, qD⟩, va_recv hKc hPc (ci := 3) (q0 := 0) rfl rfl, fun U hU hW => ⟨rfl, by rw [hU], by rw [hU]; exact hPc, va_K.moved hW.alike hKc, hDc.weaken (fun _ _ _ _ => trivial)⟩⟩ rfl rfl hl.1 rfl (lv_room (Nat.le_of_ble_eq_true rfl)) dX4_fold_178 ⟨Nat.le_of_ble_eq_true rfl, Nat.le_of_ble_eq_true rfl⟩) hS (fun q _ h => hFc q h) hFc (fun u9 t9 H1 locs ht hvm hw hB hz1 hk1 hS => ?_)
                                    obtain ⟨hP1, hD1⟩ := hB
                                    rw [ht] at hP1
                                    try dsimp only at hw
                                    obtain ⟨hP, hD⟩ := va_join (wr := [(ma, .inl (cI, 256, .inl fa)), (mb, .inl (cI, 256, .inl fb))]) (w1 := [(mo, .inr (3, [.int (nI 0), .int (nI (2 ^ k)), .ref ma, .ref mb, .int (nI (2 ^ k)), .ref lo, .ref hi, .ref kp, .ref ot, .ref su])), (lo, .inl (cJ, 511, .inr (.inl (fun j => lI ((upI (accR (acc (zrL LW (2 ^ k)) 1 (2 ^ k) fa fb a) 1 (2 ^ k) fa fb a b) (a + b) ((accR (acc (zrL LW (2 ^ k)) 1 (2 ^ k) fa fb a) 1 (2 ^ k) fa fb a b) (a + b) + (((fa a).toInt) * ((fb b).toInt)))) j))))), (hi, .inl (cJ, 511, .inr (.inl (fun j => lI ((upI HQ (a + b) (((accR (acc (zrL LW (2 ^ k)) 1 (2 ^ k) fa fb a) 1 (2 ^ k) fa fb a b) (a + b) + (((fa a).toInt) * ((fb b).toInt))) / 18446744073709551616)) j)))))]) hP hD [0, 3, 4] [1, 2] rfl rfl (by decide) (by decide) hk1 hFc hP1 hD1
                                    generalize H1 = H at hP hS ⊢
                                    have hP : va_P (dC, dI) vwCl [(ma, .inl (cI, 256, .inl fa)), (mb, .inl (cI, 256, .inl fb)), (mo, .inr (3, [.int (nI 0), .int (nI (2 ^ k)), .ref ma, .ref mb, .int (nI (2 ^ k)), .ref lo, .ref hi, .ref kp, .ref ot, .ref su])), (lo, .inl (cJ, 511, .inr (.inl (fun j => lI ((upI (accR (acc (zrL LW (2 ^ k)) 1 (2 ^ k) fa fb a) 1 (2 ^ k) fa fb a b) (a + b) ((accR (acc (zrL LW (2 ^ k)) 1 (2 ^ k) fa fb a) 1 (2 ^ k) fa fb a b) (a + b) + (((fa a).toInt) * ((fb b).toInt)))) j))))), (hi, .inl (cJ, 511, .inr (.inl (fun j => lI ((upI HQ (a + b) (((accR (acc (zrL LW (2 ^ k)) 1 (2 ^ k) fa fb a) 1 (2 ^ k) fa fb a b) (a + b) + (((fa a).toInt) * ((fb b).toInt))) / 18446744073709551616)) j)))))] H := hP
                                    have hD : va_D A [(ma, .inl (cI, 256, .inl fa)), (mb, .inl (cI, 256, .inl fb)), (mo, .inr (3, [.int (nI 0), .int (nI (2 ^ k)), .ref ma, .ref mb, .int (nI (2 ^ k)), .ref lo, .ref hi, .ref kp, .ref ot, .ref su])), (lo, .inl (cJ, 511, .inr (.inl (fun j => lI ((upI (accR (acc (zrL LW (2 ^ k)) 1 (2 ^ k) fa fb a) 1 (2 ^ k) fa fb a b) (a + b) ((accR (acc (zrL LW (2 ^ k)) 1 (2 ^ k) fa fb a) 1 (2 ^ k) fa fb a b) (a + b) + (((fa a).toInt) * ((fb b).toInt)))) j))))), (hi, .inl (cJ, 511, .inr (.inl (fun j => lI ((upI HQ (a + b) (((accR (acc (zrL LW (2 ^ k)) 1 (2 ^ k) fa fb a) 1 (2 ^ k) fa fb a b) (a + b) + (((fa a).toInt) * ((fb b).toInt))) / 18446744073709551616)) j)))))] := hD
                                    clear hPc hDc hKc hFc hP1 hD1 hk1 hz1 hvm ht
                                    clear hw
                                    have hH2 := hH_s (t := a + b) (v := ((fa a).toInt) * ((fb b).toInt)) hH
                                    rw [accR_s (kd := 1) (n := 2 ^ k) (f := fa) (g := fb) (a := a) (b := b) (t := a + b) (v := ((fa a).toInt) * ((fb b).toInt)) (if_neg (by omega)) (if_neg (by omega))] at hH2
                                    rw [show upI (accR (acc (zrL LW (2 ^ k)) 1 (2 ^ k) fa fb a) 1 (2 ^ k) fa fb a b) (a + b) ((accR (acc (zrL LW (2 ^ k)) 1 (2 ^ k) fa fb a) 1 (2 ^ k) fa fb a b) (a + b) + (((fa a).toInt) * ((fb b).toInt))) = accR (acc (zrL LW (2 ^ k)) 1 (2 ^ k) fa fb a) 1 (2 ^ k) fa fb a (b + 1) from accR_s (if_neg (by omega)) (if_neg (by omega))] at hP hD
                                    have hP : va_P (dC, dI) vwCl [(ma, .inl (cI, 256, .inl fa)), (mb, .inl (cI, 256, .inl fb)), (mo, .inr (3, [.int (nI 0), .int (nI (2 ^ k)), .ref ma, .ref mb, .int (nI (2 ^ k)), .ref lo, .ref hi, .ref kp, .ref ot, .ref su])), (lo, .inl (cJ, 511, .inr (.inl (fun j => lI ((accR (acc (zrL LW (2 ^ k)) 1 (2 ^ k) fa fb a) 1 (2 ^ k) fa fb a (b + 1)) j))))), (hi, .inl (cJ, 511, .inr (.inl (fun j => lI ((upI HQ (a + b) (((accR (acc (zrL LW (2 ^ k)) 1 (2 ^ k) fa fb a) 1 (2 ^ k) fa fb a b) (a + b) + (((fa a).toInt) * ((fb b).toInt))) / 18446744073709551616)) j)))))] H := hP
                                    have hD : va_D A [(ma, .inl (cI, 256, .inl fa)), (mb, .inl (cI, 256, .inl fb)), (mo, .inr (3, [.int (nI 0), .int (nI (2 ^ k)), .ref ma, .ref mb, .int (nI (2 ^ k)), .ref lo, .ref hi, .ref kp, .ref ot, .ref su])), (lo, .inl (cJ, 511, .inr (.inl (fun j => lI ((accR (acc (zrL LW (2 ^ k)) 1 (2 ^ k) fa fb a) 1 (2 ^ k) fa fb a (b + 1)) j))))), (hi, .inl (cJ, 511, .inr (.inl (fun j => lI ((upI HQ (a + b) (((accR (acc (zrL LW (2 ^ k)) 1 (2 ^ k) fa fb a) 1 (2 ^ k) fa fb a b) (a + b) + (((fa a).toInt) * ((fb b).toInt))) / 18446744073709551616)) j)))))] := hD
                                    refine lv_iinc (v := nI (b + 1)) (lv' := [(3, .int (nI (b + 1))), (6, .int (nI 0)), (4, .long (lI (((fa a).toInt) * ((fb b).toInt)))), (2, .int (nI a)), (1, .int (nI 1)), (0, .ref mo)]) hx hb dX4_fold_181 hl (k := 2) rfl (nI_add b 1) (by decide) rfl (fun ls hl => ?_)
                                    refine lv_goto (tgt := 93) hx hb dX4_fold_184 (by decide) ?_
                                    exact ih_93  (b + 1) (upI HQ (a + b) (((accR (acc (zrL LW (2 ^ k)) 1 (2 ^ k) fa fb a) 1 (2 ^ k) fa fb a b) (a + b) + (((fa a).toInt) * ((fb b).toInt))) / 18446744073709551616)) (by omega) (hH2) (by omega) _ _ _ (hP.sub [2, 0, 1, 3, 4] rfl) (hD.sub [2, 0, 1, 3, 4] (by decide) rfl) hS (lv_sub hl [0, 3, 4, 5] rfl)
                                  · have c_11 : ¬ (0 = 0) := fun zq9 => c_11 ((nI_eq (a := 0) (b := 0) (by omega) (by omega)).mpr zq9)
                                    omega
                                · have c_10 : ¬ (0 = 0) := fun zq9 => c_10 ((nI_eq (a := 0) (b := 0) (by omega) (by omega)).mpr zq9)
                                  omega
                              · have c_9 : ¬ (a + b < 2 ^ k) := fun zq9 => c_9 ((nI_ltI (a := a + b) (b := 2 ^ k) (by omega) (by omega)).mpr zq9)
                                refine lv_iconst (v := nI 1) hx hb dX4_fold_133 (by decide) ?_
                                refine lv_goto (tgt := 138) hx hb dX4_fold_134 (by decide) ?_
                                refine lv_istore (lv' := [(6, .int (nI 1)), (4, .long (lI (((fa a).toInt) * ((fb b).toInt)))), (3, .int (nI b)), (2, .int (nI a)), (1, .int (nI 1)), (0, .ref mo)]) hx hb dX4_fold_138 hl (by decide) rfl (fun ls hl => ?_)
                                refine lv_aload_n hx hb dX4_fold_140 rfl (lv_at hl 5 rfl) ?_
                                refine lv_iload hx hb dX4_fold_141 (lv_at hl 0 rfl) ?_
                                refine lv_if_eq (tgt := 157) hx hb dX4_fold_143 (by decide) (fun c_12 => ?_) (fun c_12 => ?_)
                                · have c_12 : 1 = 0 := (nI_eq (a := 1) (b := 0) (by omega) (by omega)).mp c_12
                                  omega
                                · have c_12 : ¬ (1 = 0) := fun zq9 => c_12 ((nI_eq (a := 1) (b := 0) (by omega) (by omega)).mpr zq9)
                                  refine lv_iload_n hx hb dX4_fold_146 rfl (lv_at hl 3 rfl) ?_
                                  refine lv_iload_n hx hb dX4_fold_147 rfl (lv_at hl 2 rfl) ?_
                                  refine lv_iadd hx hb dX4_fold_148 ?_
                                  refine W.eq (congrArg (fun z => F0 m _ ls (.int z :: _)) (show (nI a) + (nI b) = nI (a + b) from nI_add a b)) ?_
                                  refine lv_aload_n hx hb dX4_fold_149 rfl (lv_at hl 5 rfl) ?_
                                  refine va_get (D := (dC, dI)) (ci := 3) (v := .int (nI (2 ^ k))) (C := RX4) (T := TX4) (N := 10) hx hb hts (by decide +kernel) hown hK hP 0 rfl rfl 1 (by decide) (hts (.fieldLink RX4 7 "ThreePrimesModel" "n" "I") (by decide +kernel)) (fun _ h9 => h9) rfl dX4_fold_150 ?_
                                  refine lv_isub hx hb dX4_fold_153 ?_
                                  refine W.eq (congrArg (fun z => F0 m _ ls (.int z :: _)) (show (nI (a + b)) - (nI (2 ^ k)) = nI (a + b - (2 ^ k)) from pk_sub (by omega))) ?_
                                  refine lv_goto (tgt := 160) hx hb dX4_fold_154 (by decide) ?_
                                  refine lv_iload hx hb dX4_fold_160 (lv_at hl 0 rfl) ?_
                                  refine lv_if_eq (tgt := 176) hx hb dX4_fold_162 (by decide) (fun c_13 => ?_) (fun c_13 => ?_)
                                  · have c_13 : 1 = 0 := (nI_eq (a := 1) (b := 0) (by omega) (by omega)).mp c_13
                                    omega
                                  · have c_13 : ¬ (1 = 0) := fun zq9 => c_13 ((nI_eq (a := 1) (b := 0) (by omega) (by omega)).mpr zq9)
                                    refine lv_iload_n hx hb dX4_fold_165 rfl (lv_at hl 4 rfl) ?_
                                    refine lv_iconst (v := nI 1) hx hb dX4_fold_166 (by decide) ?_
                                    refine lv_icmp_ne (tgt := 176) hx hb dX4_fold_167 (by decide) (fun c_14 => ?_) (fun c_14 => ?_)
                                    · have c_14 : ¬ (1 = 1) := fun zq9 => c_14 ((nI_eq (a := 1) (b := 1) (by omega) (by omega)).mpr zq9)
                                      omega
                                    · have c_14 : 1 = 1 := (nI_eq (a := 1) (b := 1) (by omega) (by omega)).mp c_14
                                      refine lv_lload hx hb dX4_fold_170 (lv_at hl 1 rfl) ?_
                                      refine lv_lneg hx hb dX4_fold_172 ?_
                                      refine W.eq (congrArg (fun z => F0 m _ ls (.long z :: _)) (show -lI (((fa a).toInt) * ((fb b).toInt)) = lI (-(((fa a).toInt) * ((fb b).toInt))) from lI_neg (((fa a).toInt) * ((fb b).toInt)))) ?_
                                      refine lv_goto (tgt := 178) hx hb dX4_fold_173 (by decide) ?_
                                      have hPc := hP.sub (ws' := [(mo, .inr (3, [.int (nI 0), .int (nI (2 ^ k)), .ref ma, .ref mb, .int (nI (2 ^ k)), .ref lo, .ref hi, .ref kp, .ref ot, .ref su])), (lo, .inl (cJ, 511, .inr (.inl (fun j => lI ((accR (acc (zrL LW (2 ^ k)) 1 (2 ^ k) fa fb a) 1 (2 ^ k) fa fb a b) j))))), (hi, .inl (cJ, 511, .inr (.inl (fun j => lI (HQ j)))))]) [0, 3, 4] rfl
                                      have hDc := hD.sub (ws' := [(mo, .inr (3, [.int (nI 0), .int (nI (2 ^ k)), .ref ma, .ref mb, .int (nI (2 ^ k)), .ref lo, .ref hi, .ref kp, .ref ot, .ref su])), (lo, .inl (cJ, 511, .inr (.inl (fun j => lI ((accR (acc (zrL LW (2 ^ k)) 1 (2 ^ k) fa fb a) 1 (2 ^ k) fa fb a b) j))))), (hi, .inl (cJ, 511, .inr (.inl (fun j => lI (HQ j)))))]) [0, 3, 4] (by decide) rfl
                                      have hKc := hK.sub (tys' := [(cJ, .long)]) [1] rfl
                                      have hFc := va_free (wc := [(mo, .inr (3, [.int (nI 0), .int (nI (2 ^ k)), .ref ma, .ref mb, .int (nI (2 ^ k)), .ref lo, .ref hi, .ref kp, .ref ot, .ref su])), (lo, .inl (cJ, 511, .inr (.inl (fun j => lI ((accR (acc (zrL LW (2 ^ k)) 1 (2 ^ k) fa fb a) 1 (2 ^ k) fa fb a b) j))))), (hi, .inl (cJ, 511, .inr (.inl (fun j => lI (HQ j)))))]) hD hS hA [0, 3, 4] rfl
                                      refine va_callv (va_runV (As := [.int (nI (a + b - (2 ^ k))), .long (lI (-(((fa a).toInt) * ((fb b).toInt))))]) (rest := []) ⟨hx, hb, hml, hown, hts⟩ (c_X4_add l dC dI mo ma mb lo hi kp ot su k (2 ^ k) (nI 0) cJ (accR (acc (zrL LW (2 ^ k)) 1 (2 ^ k) fa fb a) 1 (2 ^ k) fa fb a b) HQ (a + b - (2 ^ k)) (-(((fa a).toInt) * ((fb b).toInt))) H.size (by omega) (by omega) (by omega) (hH _ (by omega))) (cwV 2 hts gX4_fold_X4_add rfl rfl rfl (by decide +kernel) ⟨Nat.le_of_ble_eq_true rfl, Nat.le_of_ble_eq_true rfl⟩) ⟨fun a U g mk q => by obtain ⟨q0, q1, qP, qK, qD⟩ := q; exact ⟨q0, q1, qP, va_K.moved (u := U) (U := U.calling g mk a) (Vm.Alike.refl U.vm) qK, qD⟩, va_recv hKc hPc (ci := 3) (q0 := 0) rfl rfl, fun U hU hW => ⟨rfl, by rw [hU], by rw [hU]; exact hPc, va_K.moved hW.alike hKc, hDc.weaken (fun _ _ _ _ => trivial)⟩⟩ rfl rfl hl.1 rfl (lv_room (Nat.le_of_ble_eq_true rfl)) dX4_fold_178 ⟨Nat.le_of_ble_eq_true rfl, Nat.le_of_ble_eq_true rfl⟩) hS (fun q _ h => hFc q h) hFc (fun u9 t9 H1 locs ht hvm hw hB hz1 hk1 hS => ?_)
                                      obtain ⟨hP1, hD1⟩ := hB
                                      rw [ht] at hP1
                                      try dsimp only at hw
                                      obtain ⟨hP, hD⟩ := va_join (wr := [(ma, .inl (cI, 256, .inl fa)), (mb, .inl (cI, 256, .inl fb))]) (w1 := [(mo, .inr (3, [.int (nI 0), .int (nI (2 ^ k)), .ref ma, .ref mb, .int (nI (2 ^ k)), .ref lo, .ref hi, .ref kp, .ref ot, .ref su])), (lo, .inl (cJ, 511, .inr (.inl (fun j => lI ((upI (accR (acc (zrL LW (2 ^ k)) 1 (2 ^ k) fa fb a) 1 (2 ^ k) fa fb a b) (a + b - (2 ^ k)) ((accR (acc (zrL LW (2 ^ k)) 1 (2 ^ k) fa fb a) 1 (2 ^ k) fa fb a b) (a + b - (2 ^ k)) + (-(((fa a).toInt) * ((fb b).toInt))))) j))))), (hi, .inl (cJ, 511, .inr (.inl (fun j => lI ((upI HQ (a + b - (2 ^ k)) (((accR (acc (zrL LW (2 ^ k)) 1 (2 ^ k) fa fb a) 1 (2 ^ k) fa fb a b) (a + b - (2 ^ k)) + (-(((fa a).toInt) * ((fb b).toInt)))) / 18446744073709551616)) j)))))]) hP hD [0, 3, 4] [1, 2] rfl rfl (by decide) (by decide) hk1 hFc hP1 hD1
                                      generalize H1 = H at hP hS ⊢
                                      have hP : va_P (dC, dI) vwCl [(ma, .inl (cI, 256, .inl fa)), (mb, .inl (cI, 256, .inl fb)), (mo, .inr (3, [.int (nI 0), .int (nI (2 ^ k)), .ref ma, .ref mb, .int (nI (2 ^ k)), .ref lo, .ref hi, .ref kp, .ref ot, .ref su])), (lo, .inl (cJ, 511, .inr (.inl (fun j => lI ((upI (accR (acc (zrL LW (2 ^ k)) 1 (2 ^ k) fa fb a) 1 (2 ^ k) fa fb a b) (a + b - (2 ^ k)) ((accR (acc (zrL LW (2 ^ k)) 1 (2 ^ k) fa fb a) 1 (2 ^ k) fa fb a b) (a + b - (2 ^ k)) + (-(((fa a).toInt) * ((fb b).toInt))))) j))))), (hi, .inl (cJ, 511, .inr (.inl (fun j => lI ((upI HQ (a + b - (2 ^ k)) (((accR (acc (zrL LW (2 ^ k)) 1 (2 ^ k) fa fb a) 1 (2 ^ k) fa fb a b) (a + b - (2 ^ k)) + (-(((fa a).toInt) * ((fb b).toInt)))) / 18446744073709551616)) j)))))] H := hP
                                      have hD : va_D A [(ma, .inl (cI, 256, .inl fa)), (mb, .inl (cI, 256, .inl fb)), (mo, .inr (3, [.int (nI 0), .int (nI (2 ^ k)), .ref ma, .ref mb, .int (nI (2 ^ k)), .ref lo, .ref hi, .ref kp, .ref ot, .ref su])), (lo, .inl (cJ, 511, .inr (.inl (fun j => lI ((upI (accR (acc (zrL LW (2 ^ k)) 1 (2 ^ k) fa fb a) 1 (2 ^ k) fa fb a b) (a + b - (2 ^ k)) ((accR (acc (zrL LW (2 ^ k)) 1 (2 ^ k) fa fb a) 1 (2 ^ k) fa fb a b) (a + b - (2 ^ k)) + (-(((fa a).toInt) * ((fb b).toInt))))) j))))), (hi, .inl (cJ, 511, .inr (.inl (fun j => lI ((upI HQ (a + b - (2 ^ k)) (((accR (acc (zrL LW (2 ^ k)) 1 (2 ^ k) fa fb a) 1 (2 ^ k) fa fb a b) (a + b - (2 ^ k)) + (-(((fa a).toInt) * ((fb b).toInt)))) / 18446744073709551616)) j)))))] := hD
                                      clear hPc hDc hKc hFc hP1 hD1 hk1 hz1 hvm ht
                                      clear hw
                                      have hH2 := hH_s (t := a + b - (2 ^ k)) (v := -(((fa a).toInt) * ((fb b).toInt))) hH
                                      rw [accR_s (kd := 1) (n := 2 ^ k) (f := fa) (g := fb) (a := a) (b := b) (t := a + b - (2 ^ k)) (v := -(((fa a).toInt) * ((fb b).toInt))) (if_pos (by omega)) (if_pos (by omega))] at hH2
                                      rw [show upI (accR (acc (zrL LW (2 ^ k)) 1 (2 ^ k) fa fb a) 1 (2 ^ k) fa fb a b) (a + b - (2 ^ k)) ((accR (acc (zrL LW (2 ^ k)) 1 (2 ^ k) fa fb a) 1 (2 ^ k) fa fb a b) (a + b - (2 ^ k)) + (-(((fa a).toInt) * ((fb b).toInt)))) = accR (acc (zrL LW (2 ^ k)) 1 (2 ^ k) fa fb a) 1 (2 ^ k) fa fb a (b + 1) from accR_s (if_pos (by omega)) (if_pos (by omega))] at hP hD
                                      have hP : va_P (dC, dI) vwCl [(ma, .inl (cI, 256, .inl fa)), (mb, .inl (cI, 256, .inl fb)), (mo, .inr (3, [.int (nI 0), .int (nI (2 ^ k)), .ref ma, .ref mb, .int (nI (2 ^ k)), .ref lo, .ref hi, .ref kp, .ref ot, .ref su])), (lo, .inl (cJ, 511, .inr (.inl (fun j => lI ((accR (acc (zrL LW (2 ^ k)) 1 (2 ^ k) fa fb a) 1 (2 ^ k) fa fb a (b + 1)) j))))), (hi, .inl (cJ, 511, .inr (.inl (fun j => lI ((upI HQ (a + b - (2 ^ k)) (((accR (acc (zrL LW (2 ^ k)) 1 (2 ^ k) fa fb a) 1 (2 ^ k) fa fb a b) (a + b - (2 ^ k)) + (-(((fa a).toInt) * ((fb b).toInt)))) / 18446744073709551616)) j)))))] H := hP
                                      have hD : va_D A [(ma, .inl (cI, 256, .inl fa)), (mb, .inl (cI, 256, .inl fb)), (mo, .inr (3, [.int (nI 0), .int (nI (2 ^ k)), .ref ma, .ref mb, .int (nI (2 ^ k)), .ref lo, .ref hi, .ref kp, .ref ot, .ref su])), (lo, .inl (cJ, 511, .inr (.inl (fun j => lI ((accR (acc (zrL LW (2 ^ k)) 1 (2 ^ k) fa fb a) 1 (2 ^ k) fa fb a (b + 1)) j))))), (hi, .inl (cJ, 511, .inr (.inl (fun j => lI ((upI HQ (a + b - (2 ^ k)) (((accR (acc (zrL LW (2 ^ k)) 1 (2 ^ k) fa fb a) 1 (2 ^ k) fa fb a b) (a + b - (2 ^ k)) + (-(((fa a).toInt) * ((fb b).toInt)))) / 18446744073709551616)) j)))))] := hD
                                      refine lv_iinc (v := nI (b + 1)) (lv' := [(3, .int (nI (b + 1))), (6, .int (nI 1)), (4, .long (lI (((fa a).toInt) * ((fb b).toInt)))), (2, .int (nI a)), (1, .int (nI 1)), (0, .ref mo)]) hx hb dX4_fold_181 hl (k := 2) rfl (nI_add b 1) (by decide) rfl (fun ls hl => ?_)
                                      refine lv_goto (tgt := 93) hx hb dX4_fold_184 (by decide) ?_
                                      exact ih_93  (b + 1) (upI HQ (a + b - (2 ^ k)) (((accR (acc (zrL LW (2 ^ k)) 1 (2 ^ k) fa fb a) 1 (2 ^ k) fa fb a b) (a + b - (2 ^ k)) + (-(((fa a).toInt) * ((fb b).toInt)))) / 18446744073709551616)) (by omega) (hH2) (by omega) _ _ _ (hP.sub [2, 0, 1, 3, 4] rfl) (hD.sub [2, 0, 1, 3, 4] (by decide) rfl) hS (lv_sub hl [0, 3, 4, 5] rfl)
                      exact key_93 (2 ^ k + 1) 0 HQ (by omega) (hH) (by omega) _ _ _ (hP.sub [0, 1, 2, 3, 4] rfl) (hD.sub [0, 1, 2, 3, 4] (by decide) rfl) hS (lv_sub hl [0, 1, 2, 3] rfl)
                exact key_83 (2 ^ k + 1) 0 (zrL HW (2 ^ k)) (by omega) (zrL_h) (by omega) _ _ _ (hP.sub [0, 1, 2, 3, 4] rfl) (hD.sub [0, 1, 2, 3, 4] (by decide) rfl) hS (lv_sub hl [0, 1, 2] rfl)
              · have c_5 : ¬ (2 ^ k ≤ t) := fun zq9 => c_5 ((nI_leI (a := 2 ^ k) (b := t) (by omega) (by omega)).mpr zq9)
                refine lv_aload_n hx hb dX4_fold_61 rfl (lv_at hl 2 rfl) ?_
                refine va_get (D := (dC, dI)) (ci := 3) (v := .ref lo) (C := RX4) (T := TX4) (N := 10) hx hb hts (by decide +kernel) hown hK hP 0 rfl rfl 5 (by decide) (hts (.fieldLink RX4 20 "ThreePrimesModel" "low" "[J") (by decide +kernel)) (fun _ h9 => h9) rfl dX4_fold_62 ?_
                refine lv_iload_n hx hb dX4_fold_65 rfl (lv_at hl 0 rfl) ?_
                refine lv_lconst (v := lI 0) hx hb dX4_fold_66 (by decide) ?_
                refine va_last hx hb hK hP hD hS 3 1 rfl rfl (vp_in_nI (by omega) (by omega)) dX4_fold_67 (fun H locs hP hD hS => ?_)
                rw [nI_clamp (show t < 2 ^ 31 by omega)] at hP hD
                rw [upI_l] at hP hD
                have hP : va_P (dC, dI) vwCl [(mo, .inr (3, [.int (nI 0), .int (nI (2 ^ k)), .ref ma, .ref mb, .int (nI (2 ^ k)), .ref lo, .ref hi, .ref kp, .ref ot, .ref su])), (ma, .inl (cI, 256, .inl fa)), (mb, .inl (cI, 256, .inl fb)), (lo, .inl (cJ, 511, .inr (.inl (fun j => lI ((upI (zrL LW t) t 0) j))))), (hi, .inl (cJ, 511, .inr (.inl (fun j => lI ((zrL HW t) j)))))] H := hP
                have hD : va_D A [(mo, .inr (3, [.int (nI 0), .int (nI (2 ^ k)), .ref ma, .ref mb, .int (nI (2 ^ k)), .ref lo, .ref hi, .ref kp, .ref ot, .ref su])), (ma, .inl (cI, 256, .inl fa)), (mb, .inl (cI, 256, .inl fb)), (lo, .inl (cJ, 511, .inr (.inl (fun j => lI ((upI (zrL LW t) t 0) j))))), (hi, .inl (cJ, 511, .inr (.inl (fun j => lI ((zrL HW t) j)))))] := hD
                rw [show upI (zrL LW t) t 0 = zrL LW (t + 1) from zrL_s] at hP hD
                have hP : va_P (dC, dI) vwCl [(mo, .inr (3, [.int (nI 0), .int (nI (2 ^ k)), .ref ma, .ref mb, .int (nI (2 ^ k)), .ref lo, .ref hi, .ref kp, .ref ot, .ref su])), (ma, .inl (cI, 256, .inl fa)), (mb, .inl (cI, 256, .inl fb)), (lo, .inl (cJ, 511, .inr (.inl (fun j => lI ((zrL LW (t + 1)) j))))), (hi, .inl (cJ, 511, .inr (.inl (fun j => lI ((zrL HW t) j)))))] H := hP
                have hD : va_D A [(mo, .inr (3, [.int (nI 0), .int (nI (2 ^ k)), .ref ma, .ref mb, .int (nI (2 ^ k)), .ref lo, .ref hi, .ref kp, .ref ot, .ref su])), (ma, .inl (cI, 256, .inl fa)), (mb, .inl (cI, 256, .inl fb)), (lo, .inl (cJ, 511, .inr (.inl (fun j => lI ((zrL LW (t + 1)) j))))), (hi, .inl (cJ, 511, .inr (.inl (fun j => lI ((zrL HW t) j)))))] := hD
                refine lv_aload_n hx hb dX4_fold_68 rfl (lv_at hl 2 rfl) ?_
                refine va_get (D := (dC, dI)) (ci := 3) (v := .ref hi) (C := RX4) (T := TX4) (N := 10) hx hb hts (by decide +kernel) hown hK hP 0 rfl rfl 6 (by decide) (hts (.fieldLink RX4 24 "ThreePrimesModel" "high" "[J") (by decide +kernel)) (fun _ h9 => h9) rfl dX4_fold_69 ?_
                refine lv_iload_n hx hb dX4_fold_72 rfl (lv_at hl 0 rfl) ?_
                refine lv_lconst (v := lI 0) hx hb dX4_fold_73 (by decide) ?_
                refine va_last hx hb hK hP hD hS 4 1 rfl rfl (vp_in_nI (by omega) (by omega)) dX4_fold_74 (fun H locs hP hD hS => ?_)
                rw [nI_clamp (show t < 2 ^ 31 by omega)] at hP hD
                rw [upI_l] at hP hD
                have hP : va_P (dC, dI) vwCl [(mo, .inr (3, [.int (nI 0), .int (nI (2 ^ k)), .ref ma, .ref mb, .int (nI (2 ^ k)), .ref lo, .ref hi, .ref kp, .ref ot, .ref su])), (ma, .inl (cI, 256, .inl fa)), (mb, .inl (cI, 256, .inl fb)), (lo, .inl (cJ, 511, .inr (.inl (fun j => lI ((zrL LW (t + 1)) j))))), (hi, .inl (cJ, 511, .inr (.inl (fun j => lI ((upI (zrL HW t) t 0) j)))))] H := hP
                have hD : va_D A [(mo, .inr (3, [.int (nI 0), .int (nI (2 ^ k)), .ref ma, .ref mb, .int (nI (2 ^ k)), .ref lo, .ref hi, .ref kp, .ref ot, .ref su])), (ma, .inl (cI, 256, .inl fa)), (mb, .inl (cI, 256, .inl fb)), (lo, .inl (cJ, 511, .inr (.inl (fun j => lI ((zrL LW (t + 1)) j))))), (hi, .inl (cJ, 511, .inr (.inl (fun j => lI ((upI (zrL HW t) t 0) j)))))] := hD
                rw [show upI (zrL HW t) t 0 = zrL HW (t + 1) from zrL_s] at hP hD
                have hP : va_P (dC, dI) vwCl [(mo, .inr (3, [.int (nI 0), .int (nI (2 ^ k)), .ref ma, .ref mb, .int (nI (2 ^ k)), .ref lo, .ref hi, .ref kp, .ref ot, .ref su])), (ma, .inl (cI, 256, .inl fa)), (mb, .inl (cI, 256, .inl fb)), (lo, .inl (cJ, 511, .inr (.inl (fun j => lI ((zrL LW (t + 1)) j))))), (hi, .inl (cJ, 511, .inr (.inl (fun j => lI ((zrL HW (t + 1)) j)))))] H := hP
                have hD : va_D A [(mo, .inr (3, [.int (nI 0), .int (nI (2 ^ k)), .ref ma, .ref mb, .int (nI (2 ^ k)), .ref lo, .ref hi, .ref kp, .ref ot, .ref su])), (ma, .inl (cI, 256, .inl fa)), (mb, .inl (cI, 256, .inl fb)), (lo, .inl (cJ, 511, .inr (.inl (fun j => lI ((zrL LW (t + 1)) j))))), (hi, .inl (cJ, 511, .inr (.inl (fun j => lI ((zrL HW (t + 1)) j)))))] := hD
                refine lv_iinc (v := nI (t + 1)) (lv' := [(2, .int (nI (t + 1))), (1, .int (nI 1)), (0, .ref mo)]) hx hb dX4_fold_75 hl (k := 0) rfl (nI_add t 1) (by decide) rfl (fun ls hl => ?_)
                refine lv_goto (tgt := 53) hx hb dX4_fold_78 (by decide) ?_
                exact ih_53  (t + 1) (by omega) (by omega) _ _ _ (hP.sub [0, 1, 2, 3, 4] rfl) (hD.sub [0, 1, 2, 3, 4] (by decide) rfl) hS (lv_sub hl [0, 1, 2] rfl)
          exact key_53 (2 ^ k + 1) 0 (by omega) (by omega) _ _ _ (hP.sub [0, 1, 2, 3, 4] rfl) (hD.sub [0, 1, 2, 3, 4] (by decide) rfl) hS (lv_sub hl [0, 2, 1] rfl)
        · have c_4 : 1 = 2 := (nI_eq (a := 1) (b := 2) (by omega) (by omega)).mp c_4
          omega
      · have c_3 : ¬ (0 ≤ 0) := fun zq9 => c_3 ((nI_leI (a := 0) (b := 0) (by omega) (by omega)).mpr zq9)
        omega
    · have c_2 : ¬ (1 ≤ 2) := fun zq9 => c_2 ((nI_leI (a := 1) (b := 2) (by omega) (by omega)).mpr zq9)
      omega

abbrev q_X4_fold_2 (dC : Nat → ClassId) (dI : Nat → Nat → Nat) (mo ma mb lo hi kp ot su k rs : Nat) (tv : Int32) (cI cJ : ClassId) (fa fb : Nat → Int32) (LW HW : Nat → Int) (A : Nat → Prop) : Array Value → State → Outcome → State → Prop := va_Qi (fun (r : Int32) (u : Nat → Int) => r = nI (cntK 2 k) ∧ ∀ i, i < cntK 2 k → u i = acc (zrL LW (cntK 2 k)) 2 (2 ^ k) fa fb (2 ^ k) i / 18446744073709551616) (fun u t => va_P (dC, dI) vwCl [(mo, .inr (3, [.int (nI 0), .int (nI (2 ^ k)), .ref ma, .ref mb, .int (nI (cntK 2 k)), .ref lo, .ref hi, .ref kp, .ref ot, .ref su])), (ma, .inl (cI, 256, .inl fa)), (mb, .inl (cI, 256, .inl fb)), (lo, .inl (cJ, 511, .inr (.inl (fun j => lI ((acc (zrL LW (cntK 2 k)) 2 (2 ^ k) fa fb (2 ^ k)) j))))), (hi, .inl (cJ, 511, .inr (.inl (fun j => lI (u j)))))] t.heap ∧ va_D A [(mo, .inr (3, [.int (nI 0), .int (nI (2 ^ k)), .ref ma, .ref mb, .int (nI (cntK 2 k)), .ref lo, .ref hi, .ref kp, .ref ot, .ref su])), (ma, .inl (cI, 256, .inl fa)), (mb, .inl (cI, 256, .inl fb)), (lo, .inl (cJ, 511, .inr (.inl (fun j => lI ((acc (zrL LW (cntK 2 k)) 2 (2 ^ k) fa fb (2 ^ k)) j))))), (hi, .inl (cJ, 511, .inr (.inl (fun j => lI (u j)))))]) A
set_option maxHeartbeats 4000000 in
set_option maxRecDepth 100000 in
theorem c_X4_fold_2 (l : Launch) (dC : Nat → ClassId) (dI : Nat → Nat → Nat) (mo ma mb lo hi kp ot su k rs : Nat) (tv : Int32) (cI cJ : ClassId) (fa fb : Nat → Int32) (LW HW : Nat → Int) (sz : Nat) (zk1 : 1 ≤ k) (zk : k ≤ 8) : Met l yX4_fold wsX4_fold ({ frames := 1, cells := 0, slots := 0, locals := 26 }) (va_Pc [.ref mo, .int (nI 2)] (fun U => U.heap.size = sz ∧ va_P (dC, dI) vwCl [(mo, .inr (3, [.int tv, .int (nI (2 ^ k)), .ref ma, .ref mb, .int (nI rs), .ref lo, .ref hi, .ref kp, .ref ot, .ref su])), (ma, .inl (cI, 256, .inl fa)), (mb, .inl (cI, 256, .inl fb)), (lo, .inl (cJ, 511, .inr (.inl (fun j => lI (LW j))))), (hi, .inl (cJ, 511, .inr (.inl (fun j => lI (HW j)))))] U.heap ∧ va_K (dC, dI) vwCl [(cI, .int), (cJ, .long)] U ∧ va_D (fun _ => True) [(mo, .inr (3, [.int tv, .int (nI (2 ^ k)), .ref ma, .ref mb, .int (nI rs), .ref lo, .ref hi, .ref kp, .ref ot, .ref su])), (ma, .inl (cI, 256, .inl fa)), (mb, .inl (cI, 256, .inl fb)), (lo, .inl (cJ, 511, .inr (.inl (fun j => lI (LW j))))), (hi, .inl (cJ, 511, .inr (.inl (fun j => lI (HW j)))))])) (q_X4_fold_2 dC dI mo ma mb lo hi kp ot su k rs tv cI cJ fa fb LW HW (va_A [(mo, .inr (3, [.int tv, .int (nI (2 ^ k)), .ref ma, .ref mb, .int (nI rs), .ref lo, .ref hi, .ref kp, .ref ot, .ref su])), (ma, .inl (cI, 256, .inl fa)), (mb, .inl (cI, 256, .inl fb)), (lo, .inl (cJ, 511, .inr (.inl (fun j => lI (LW j))))), (hi, .inl (cJ, 511, .inr (.inl (fun j => lI (HW j)))))] sz)) 0 0 (va_A [(mo, .inr (3, [.int tv, .int (nI (2 ^ k)), .ref ma, .ref mb, .int (nI rs), .ref lo, .ref hi, .ref kp, .ref ot, .ref su])), (ma, .inl (cI, 256, .inl fa)), (mb, .inl (cI, 256, .inl fb)), (lo, .inl (cJ, 511, .inr (.inl (fun j => lI (LW j))))), (hi, .inl (cJ, 511, .inr (.inl (fun j => lI (HW j)))))] sz) := by
  refine Met.ofW (cc := cX4_fold) (maxL := 7) (ret := (some .int)) (by decide) rfl ?_
  intro p e s m args below meth c s₁ B hml hv
  obtain ⟨rfl, hsz, hP, hK, hD0⟩ := hv
  have hx := B.exec
  have hb := B.bytes
  have hr := B.returns
  have hts := atoms_spec (ws := wsX4_fold) B.pre
  have hown : s.vm.findClass RX4 = some m.cls := findClass_of_methodNamed B.named
  have hlocks := B.notSynchronized
  subst hsz
  have hD := hD0.self (sz := s.heap.size)
  generalize hAe : va_A [(mo, .inr (3, [.int tv, .int (nI (2 ^ k)), .ref ma, .ref mb, .int (nI rs), .ref lo, .ref hi, .ref kp, .ref ot, .ref su])), (ma, .inl (cI, 256, .inl fa)), (mb, .inl (cI, 256, .inl fb)), (lo, .inl (cJ, 511, .inr (.inl (fun j => lI (LW j))))), (hi, .inl (cJ, 511, .inr (.inl (fun j => lI (HW j)))))] s.heap.size = A at hD ⊢
  have hA : ∀ q : Nat, s.heap.size ≤ q → A q := fun q h => by rw [← hAe]; exact Or.inr h
  have hS : va_S A s.heap s.heap [] := va_S.rf
  have hP : va_P (dC, dI) vwCl [(mo, .inr (3, [.int tv, .int (nI (2 ^ k)), .ref ma, .ref mb, .int (nI rs), .ref lo, .ref hi, .ref kp, .ref ot, .ref su])), (ma, .inl (cI, 256, .inl fa)), (mb, .inl (cI, 256, .inl fb)), (lo, .inl (cJ, 511, .inr (.inl (fun j => lI (LW j))))), (hi, .inl (cJ, 511, .inr (.inl (fun j => lI (HW j)))))] s.heap := hP
  have hl := lv_entry (([.ref mo, .int (nI 2)] : List Value)) (n := 7) (Nat.le_of_ble_eq_true rfl)
  rw [lg_entry_eq]
  generalize (lg_sl (([.ref mo, .int (nI 2)] : List Value)) ++ List.replicate (7 - (lg_sl (([.ref mo, .int (nI 2)] : List Value))).length) Slot.unset).toArray = ls at hl ⊢
  have hl : lv_has ls 7 [(0, .ref mo), (1, .int (nI 2))] := hl
  obtain ⟨H, hHe⟩ : ∃ H : Heap, H = s.heap := ⟨_, rfl⟩
  rw [← hHe] at hP
  have hS : va_S A s.heap H [] := by rw [hHe]; exact hS
  obtain ⟨locs, hlo⟩ : ∃ L : List Loc, L = [] := ⟨_, rfl⟩
  rw [← hlo] at hS ⊢
  rw [← hHe]
  have hpk := pw8 zk
  refine lv_aload_n hx hb dX4_fold_0 rfl (lv_at hl 0 rfl) ?_
  refine lv_iload_n hx hb dX4_fold_1 rfl (lv_at hl 1 rfl) ?_
  refine lv_if_lt (tgt := 10) hx hb dX4_fold_2 (by decide) (fun c_1 => ?_) (fun c_1 => ?_)
  · have c_1 : 2 < 0 := (nI_ltI (a := 2) (b := 0) (by omega) (by omega)).mp c_1
    omega
  · have c_1 : ¬ (2 < 0) := fun zq9 => c_1 ((nI_ltI (a := 2) (b := 0) (by omega) (by omega)).mpr zq9)
    refine lv_iload_n hx hb dX4_fold_5 rfl (lv_at hl 1 rfl) ?_
    refine lv_iconst (v := nI 2) hx hb dX4_fold_6 (by decide) ?_
    refine lv_icmp_le (tgt := 14) hx hb dX4_fold_7 (by decide) (fun c_2 => ?_) (fun c_2 => ?_)
    · have c_2 : 2 ≤ 2 := (nI_leI (a := 2) (b := 2) (by omega) (by omega)).mp c_2
      refine lv_iconst (v := nI 0) hx hb dX4_fold_14 (by decide) ?_
      refine va_put (D := (dC, dI)) (ci := 3) (v := .int (nI 0)) (ty := .int) (C := RX4) (T := TX4) (N := 10) hx hb hts (by decide +kernel) tyX4 tyX4_ok nmX4 hown hK hP hD hS 0 rfl rfl 0 (by decide) (hts (.fieldLink RX4 36 "ThreePrimesModel" "thrown" "I") (by decide +kernel)) (fun _ h9 => h9) rfl (by decide +kernel) rfl rfl (Nat.le_of_ble_eq_true rfl) dX4_fold_15 (fun H locs hP hD hS => ?_)
      have hP : va_P (dC, dI) vwCl [(mo, .inr (3, [.int (nI 0), .int (nI (2 ^ k)), .ref ma, .ref mb, .int (nI rs), .ref lo, .ref hi, .ref kp, .ref ot, .ref su])), (ma, .inl (cI, 256, .inl fa)), (mb, .inl (cI, 256, .inl fb)), (lo, .inl (cJ, 511, .inr (.inl (fun j => lI (LW j))))), (hi, .inl (cJ, 511, .inr (.inl (fun j => lI (HW j)))))] H := hP
      have hD : va_D A [(mo, .inr (3, [.int (nI 0), .int (nI (2 ^ k)), .ref ma, .ref mb, .int (nI rs), .ref lo, .ref hi, .ref kp, .ref ot, .ref su])), (ma, .inl (cI, 256, .inl fa)), (mb, .inl (cI, 256, .inl fb)), (lo, .inl (cJ, 511, .inr (.inl (fun j => lI (LW j))))), (hi, .inl (cJ, 511, .inr (.inl (fun j => lI (HW j)))))] := hD
      refine lv_aload_n hx hb dX4_fold_18 rfl (lv_at hl 0 rfl) ?_
      refine va_get (D := (dC, dI)) (ci := 3) (v := .int (nI 0)) (C := RX4) (T := TX4) (N := 10) hx hb hts (by decide +kernel) hown hK hP 0 rfl rfl 0 (by decide) (hts (.fieldLink RX4 36 "ThreePrimesModel" "thrown" "I") (by decide +kernel)) (fun _ h9 => h9) rfl dX4_fold_19 ?_
      refine lv_if_le (tgt := 27) hx hb dX4_fold_22 (by decide) (fun c_3 => ?_) (fun c_3 => ?_)
      · have c_3 : 0 ≤ 0 := (nI_leI (a := 0) (b := 0) (by omega) (by omega)).mp c_3
        refine lv_aload_n hx hb dX4_fold_27 rfl (lv_at hl 0 rfl) ?_
        refine lv_iload_n hx hb dX4_fold_28 rfl (lv_at hl 1 rfl) ?_
        refine lv_iconst (v := nI 2) hx hb dX4_fold_29 (by decide) ?_
        refine lv_icmp_ne (tgt := 44) hx hb dX4_fold_30 (by decide) (fun c_4 => ?_) (fun c_4 => ?_)
        · have c_4 : ¬ (2 = 2) := fun zq9 => c_4 ((nI_eq (a := 2) (b := 2) (by omega) (by omega)).mpr zq9)
          omega
        · have c_4 : 2 = 2 := (nI_eq (a := 2) (b := 2) (by omega) (by omega)).mp c_4
          refine lv_iconst (v := nI 2) hx hb dX4_fold_33 (by decide) ?_
          refine lv_aload_n hx hb dX4_fold_34 rfl (lv_at hl 0 rfl) ?_
          refine va_get (D := (dC, dI)) (ci := 3) (v := .int (nI (2 ^ k))) (C := RX4) (T := TX4) (N := 10) hx hb hts (by decide +kernel) hown hK hP 0 rfl rfl 1 (by decide) (hts (.fieldLink RX4 7 "ThreePrimesModel" "n" "I") (by decide +kernel)) (fun _ h9 => h9) rfl dX4_fold_35 ?_
          refine lv_imul hx hb dX4_fold_38 ?_
          refine W.eq (congrArg (fun z => F0 m _ ls (.int z :: _)) (show (nI 2) * (nI (2 ^ k)) = nI (2 * (2 ^ k)) from pk_mul 2 (2 ^ k))) ?_
          refine lv_iconst (v := nI 1) hx hb dX4_fold_39 (by decide) ?_
          refine lv_isub hx hb dX4_fold_40 ?_
          refine W.eq (congrArg (fun z => F0 m _ ls (.int z :: _)) (show (nI (2 * (2 ^ k))) - (nI 1) = nI (2 * (2 ^ k) - 1) from pk_sub (by omega))) ?_
          refine lv_goto (tgt := 48) hx hb dX4_fold_41 (by decide) ?_
          refine va_put (D := (dC, dI)) (ci := 3) (v := .int (nI (2 * (2 ^ k) - 1))) (ty := .int) (C := RX4) (T := TX4) (N := 10) hx hb hts (by decide +kernel) tyX4 tyX4_ok nmX4 hown hK hP hD hS 0 rfl rfl 4 (by decide) (hts (.fieldLink RX4 39 "ThreePrimesModel" "results" "I") (by decide +kernel)) (fun _ h9 => h9) rfl (by decide +kernel) rfl rfl (Nat.le_of_ble_eq_true rfl) dX4_fold_48 (fun H locs hP hD hS => ?_)
          have hP : va_P (dC, dI) vwCl [(mo, .inr (3, [.int (nI 0), .int (nI (2 ^ k)), .ref ma, .ref mb, .int (nI (2 * (2 ^ k) - 1)), .ref lo, .ref hi, .ref kp, .ref ot, .ref su])), (ma, .inl (cI, 256, .inl fa)), (mb, .inl (cI, 256, .inl fb)), (lo, .inl (cJ, 511, .inr (.inl (fun j => lI (LW j))))), (hi, .inl (cJ, 511, .inr (.inl (fun j => lI (HW j)))))] H := hP
          have hD : va_D A [(mo, .inr (3, [.int (nI 0), .int (nI (2 ^ k)), .ref ma, .ref mb, .int (nI (2 * (2 ^ k) - 1)), .ref lo, .ref hi, .ref kp, .ref ot, .ref su])), (ma, .inl (cI, 256, .inl fa)), (mb, .inl (cI, 256, .inl fb)), (lo, .inl (cJ, 511, .inr (.inl (fun j => lI (LW j))))), (hi, .inl (cJ, 511, .inr (.inl (fun j => lI (HW j)))))] := hD
          refine lv_iconst (v := nI 0) hx hb dX4_fold_51 (by decide) ?_
          rw [show LW = zrL LW 0 from (zrL_0 _).symm] at hP hD
          have hP : va_P (dC, dI) vwCl [(mo, .inr (3, [.int (nI 0), .int (nI (2 ^ k)), .ref ma, .ref mb, .int (nI (2 * (2 ^ k) - 1)), .ref lo, .ref hi, .ref kp, .ref ot, .ref su])), (ma, .inl (cI, 256, .inl fa)), (mb, .inl (cI, 256, .inl fb)), (lo, .inl (cJ, 511, .inr (.inl (fun j => lI ((zrL LW 0) j))))), (hi, .inl (cJ, 511, .inr (.inl (fun j => lI (HW j)))))] H := hP
          have hD : va_D A [(mo, .inr (3, [.int (nI 0), .int (nI (2 ^ k)), .ref ma, .ref mb, .int (nI (2 * (2 ^ k) - 1)), .ref lo, .ref hi, .ref kp, .ref ot, .ref su])), (ma, .inl (cI, 256, .inl fa)), (mb, .inl (cI, 256, .inl fb)), (lo, .inl (cJ, 511, .inr (.inl (fun j => lI ((zrL LW 0) j))))), (hi, .inl (cJ, 511, .inr (.inl (fun j => lI (HW j)))))] := hD
          rw [show HW = zrL HW 0 from (zrL_0 _).symm] at hP hD
          have hP : va_P (dC, dI) vwCl [(mo, .inr (3, [.int (nI 0), .int (nI (2 ^ k)), .ref ma, .ref mb, .int (nI (2 * (2 ^ k) - 1)), .ref lo, .ref hi, .ref kp, .ref ot, .ref su])), (ma, .inl (cI, 256, .inl fa)), (mb, .inl (cI, 256, .inl fb)), (lo, .inl (cJ, 511, .inr (.inl (fun j => lI ((zrL LW 0) j))))), (hi, .inl (cJ, 511, .inr (.inl (fun j => lI ((zrL HW 0) j)))))] H := hP
          have hD : va_D A [(mo, .inr (3, [.int (nI 0), .int (nI (2 ^ k)), .ref ma, .ref mb, .int (nI (2 * (2 ^ k) - 1)), .ref lo, .ref hi, .ref kp, .ref ot, .ref su])), (ma, .inl (cI, 256, .inl fa)), (mb, .inl (cI, 256, .inl fb)), (lo, .inl (cJ, 511, .inr (.inl (fun j => lI ((zrL LW 0) j))))), (hi, .inl (cJ, 511, .inr (.inl (fun j => lI ((zrL HW 0) j)))))] := hD
          refine lv_istore_n (lv' := [(2, .int (nI 0)), (0, .ref mo), (1, .int (nI 2))]) hx hb dX4_fold_52 rfl hl (by decide) rfl (fun ls hl => ?_)
          have key_53 : ∀ (fuel : Nat) (t : Nat), (t ≤ 2 * 2 ^ k - 1) → (2 * 2 ^ k - 1 - t < fuel) → ∀ (H : Heap) (locs : List Loc) (ls : Array Slot), va_P (dC, dI) vwCl [(mo, .inr (3, [.int (nI 0), .int (nI (2 ^ k)), .ref ma, .ref mb, .int (nI (2 * 2 ^ k - 1)), .ref lo, .ref hi, .ref kp, .ref ot, .ref su])), (ma, .inl (cI, 256, .inl fa)), (mb, .inl (cI, 256, .inl fb)), (lo, .inl (cJ, 511, .inr (.inl (fun j => lI ((zrL LW t) j))))), (hi, .inl (cJ, 511, .inr (.inl (fun j => lI ((zrL HW t) j)))))] H → va_D A [(mo, .inr (3, [.int (nI 0), .int (nI (2 ^ k)), .ref ma, .ref mb, .int (nI (2 * 2 ^ k - 1)), .ref lo, .ref hi, .ref kp, .ref ot, .ref su])), (ma, .inl (cI, 256, .inl fa)), (mb, .inl (cI, 256, .inl fb)), (lo, .inl (cJ, 511, .inr (.inl (fun j => lI ((zrL LW t) j))))), (hi, .inl (cJ, 511, .inr (.inl (fun j => lI ((zrL HW t) j)))))] → va_S A s.heap H locs → lv_has ls 7 [(2, .int (nI t)), (1, .int (nI 2)), (0, .ref mo)] → W p l e (headSpec wsX4_fold { frames := 1, cells := 0, slots := 0, locals := 26 }).room s m ([.ref mo, .int (nI 2)] : List Value).toArray below meth c H locs 0 0 (MQ below (q_X4_fold_2 dC dI mo ma mb lo hi kp ot su k rs tv cI cJ fa fb LW HW  A) ([.ref mo, .int (nI 2)] : List Value).toArray s 0 0 A) (F0 m 53 ls []) := by
            intro fuel
            induction fuel with
            | zero => intro t; intros; omega
            | succ fuel ih_53 =>
              intro t ht hfu H locs ls hP hD hS hl
              refine lv_iload_n hx hb dX4_fold_53 rfl (lv_at hl 0 rfl) ?_
              refine lv_aload_n hx hb dX4_fold_54 rfl (lv_at hl 2 rfl) ?_
              refine va_get (D := (dC, dI)) (ci := 3) (v := .int (nI (2 * 2 ^ k - 1))) (C := RX4) (T := TX4) (N := 10) hx hb hts (by decide +kernel) hown hK hP 0 rfl rfl 4 (by decide) (hts (.fieldLink RX4 39 "ThreePrimesModel" "results" "I") (by decide +kernel)) (fun _ h9 => h9) rfl dX4_fold_55 ?_
              refine lv_icmp_ge (tgt := 81) hx hb dX4_fold_58 (by decide) (fun c_5 => ?_) (fun c_5 => ?_)
              · have c_5 : 2 * 2 ^ k - 1 ≤ t := (nI_leI (a := 2 * 2 ^ k - 1) (b := t) (by omega) (by omega)).mp c_5
                refine lv_iconst (v := nI 0) hx hb dX4_fold_81 (by decide) ?_
                rw [show zrL LW t = acc (zrL LW (2 * 2 ^ k - 1)) 2 (2 ^ k) fa fb 0 from by rw [show t = 2 * 2 ^ k - 1 by omega]; rfl] at hP hD
                have hP : va_P (dC, dI) vwCl [(mo, .inr (3, [.int (nI 0), .int (nI (2 ^ k)), .ref ma, .ref mb, .int (nI (2 * 2 ^ k - 1)), .ref lo, .ref hi, .ref kp, .ref ot, .ref su])), (ma, .inl (cI, 256, .inl fa)), (mb, .inl (cI, 256, .inl fb)), (lo, .inl (cJ, 511, .inr (.inl (fun j => lI ((acc (zrL LW (2 * 2 ^ k - 1)) 2 (2 ^ k) fa fb 0) j))))), (hi, .inl (cJ, 511, .inr (.inl (fun j => lI ((zrL HW t) j)))))] H := hP
                have hD : va_D A [(mo, .inr (3, [.int (nI 0), .int (nI (2 ^ k)), .ref ma, .ref mb, .int (nI (2 * 2 ^ k - 1)), .ref lo, .ref hi, .ref kp, .ref ot, .ref su])), (ma, .inl (cI, 256, .inl fa)), (mb, .inl (cI, 256, .inl fb)), (lo, .inl (cJ, 511, .inr (.inl (fun j => lI ((acc (zrL LW (2 * 2 ^ k - 1)) 2 (2 ^ k) fa fb 0) j))))), (hi, .inl (cJ, 511, .inr (.inl (fun j => lI ((zrL HW t) j)))))] := hD
                rw [show zrL HW t = zrL HW (2 * 2 ^ k - 1) from by rw [show t = 2 * 2 ^ k - 1 by omega]] at hP hD
                have hP : va_P (dC, dI) vwCl [(mo, .inr (3, [.int (nI 0), .int (nI (2 ^ k)), .ref ma, .ref mb, .int (nI (2 * 2 ^ k - 1)), .ref lo, .ref hi, .ref kp, .ref ot, .ref su])), (ma, .inl (cI, 256, .inl fa)), (mb, .inl (cI, 256, .inl fb)), (lo, .inl (cJ, 511, .inr (.inl (fun j => lI ((acc (zrL LW (2 * 2 ^ k - 1)) 2 (2 ^ k) fa fb 0) j))))), (hi, .inl (cJ, 511, .inr (.inl (fun j => lI ((zrL HW (2 * 2 ^ k - 1)) j)))))] H := hP
                have hD : va_D A [(mo, .inr (3, [.int (nI 0), .int (nI (2 ^ k)), .ref ma, .ref mb, .int (nI (2 * 2 ^ k - 1)), .ref lo, .ref hi, .ref kp, .ref ot, .ref su])), (ma, .inl (cI, 256, .inl fa)), (mb, .inl (cI, 256, .inl fb)), (lo, .inl (cJ, 511, .inr (.inl (fun j => lI ((acc (zrL LW (2 * 2 ^ k - 1)) 2 (2 ^ k) fa fb 0) j))))), (hi, .inl (cJ, 511, .inr (.inl (fun j => lI ((zrL HW (2 * 2 ^ k - 1)) j)))))] := hD
                refine lv_istore_n (lv' := [(2, .int (nI 0)), (1, .int (nI 2)), (0, .ref mo)]) hx hb dX4_fold_82 rfl hl (by decide) rfl (fun ls hl => ?_)
                have key_83 : ∀ (fuel : Nat) (a : Nat) (HQ : Nat → Int), (a ≤ 2 ^ k) → (∀ i, i < 2 * 2 ^ k - 1 → HQ i = (acc (zrL LW (2 * 2 ^ k - 1)) 2 (2 ^ k) fa fb a) i / 18446744073709551616) → (2 ^ k - a < fuel) → ∀ (H : Heap) (locs : List Loc) (ls : Array Slot), va_P (dC, dI) vwCl [(mo, .inr (3, [.int (nI 0), .int (nI (2 ^ k)), .ref ma, .ref mb, .int (nI (2 * 2 ^ k - 1)), .ref lo, .ref hi, .ref kp, .ref ot, .ref su])), (ma, .inl (cI, 256, .inl fa)), (mb, .inl (cI, 256, .inl fb)), (lo, .inl (cJ, 511, .inr (.inl (fun j => lI ((acc (zrL LW (2 * 2 ^ k - 1)) 2 (2 ^ k) fa fb a) j))))), (hi, .inl (cJ, 511, .inr (.inl (fun j => lI (HQ j)))))] H → va_D A [(mo, .inr (3, [.int (nI 0), .int (nI (2 ^ k)), .ref ma, .ref mb, .int (nI (2 * 2 ^ k - 1)), .ref lo, .ref hi, .ref kp, .ref ot, .ref su])), (ma, .inl (cI, 256, .inl fa)), (mb, .inl (cI, 256, .inl fb)), (lo, .inl (cJ, 511, .inr (.inl (fun j => lI ((acc (zrL LW (2 * 2 ^ k - 1)) 2 (2 ^ k) fa fb a) j))))), (hi, .inl (cJ, 511, .inr (.inl (fun j => lI (HQ j)))))] → va_S A s.heap H locs → lv_has ls 7 [(2, .int (nI a)), (1, .int (nI 2)), (0, .ref mo)] → W p l e (headSpec wsX4_fold { frames := 1, cells := 0, slots := 0, locals := 26 }).room s m ([.ref mo, .int (nI 2)] : List Value).toArray below meth c H locs 0 0 (MQ below (q_X4_fold_2 dC dI mo ma mb lo hi kp ot su k rs tv cI cJ fa fb LW HW  A) ([.ref mo, .int (nI 2)] : List Value).toArray s 0 0 A) (F0 m 83 ls []) := by
                  intro fuel
                  induction fuel with
                  | zero => intro a HQ; intros; omega
                  | succ fuel ih_83 =>
                    intro a HQ ha hH hfu H locs ls hP hD hS hl
                    refine lv_iload_n hx hb dX4_fold_83 rfl (lv_at hl 0 rfl) ?_
                    refine lv_aload_n hx hb dX4_fold_84 rfl (lv_at hl 2 rfl) ?_
                    refine va_get (D := (dC, dI)) (ci := 3) (v := .int (nI (2 ^ k))) (C := RX4) (T := TX4) (N := 10) hx hb hts (by decide +kernel) hown hK hP 0 rfl rfl 1 (by decide) (hts (.fieldLink RX4 7 "ThreePrimesModel" "n" "I") (by decide +kernel)) (fun _ h9 => h9) rfl dX4_fold_85 ?_
                    refine lv_icmp_ge (tgt := 193) hx hb dX4_fold_88 (by decide) (fun c_6 => ?_) (fun c_6 => ?_)
                    · have c_6 : 2 ^ k ≤ a := (nI_leI (a := 2 ^ k) (b := a) (by omega) (by omega)).mp c_6
                      refine lv_aload_n hx hb dX4_fold_193 rfl (lv_at hl 2 rfl) ?_
                      refine va_get (D := (dC, dI)) (ci := 3) (v := .int (nI (2 * 2 ^ k - 1))) (C := RX4) (T := TX4) (N := 10) hx hb hts (by decide +kernel) hown hK hP 0 rfl rfl 4 (by decide) (hts (.fieldLink RX4 39 "ThreePrimesModel" "results" "I") (by decide +kernel)) (fun _ h9 => h9) rfl dX4_fold_194 ?_
                      rw [show a = 2 ^ k by omega] at hP hD hH
                      have hP : va_P (dC, dI) vwCl [(mo, .inr (3, [.int (nI 0), .int (nI (2 ^ k)), .ref ma, .ref mb, .int (nI (2 * 2 ^ k - 1)), .ref lo, .ref hi, .ref kp, .ref ot, .ref su])), (ma, .inl (cI, 256, .inl fa)), (mb, .inl (cI, 256, .inl fb)), (lo, .inl (cJ, 511, .inr (.inl (fun j => lI ((acc (zrL LW (cntK 2 k)) 2 (2 ^ k) fa fb (2 ^ k)) j))))), (hi, .inl (cJ, 511, .inr (.inl (fun j => lI (HQ j)))))] H := hP
                      have hD : va_D A [(mo, .inr (3, [.int (nI 0), .int (nI (2 ^ k)), .ref ma, .ref mb, .int (nI (2 * 2 ^ k - 1)), .ref lo, .ref hi, .ref kp, .ref ot, .ref su])), (ma, .inl (cI, 256, .inl fa)), (mb, .inl (cI, 256, .inl fb)), (lo, .inl (cJ, 511, .inr (.inl (fun j => lI ((acc (zrL LW (cntK 2 k)) 2 (2 ^ k) fa fb (2 ^ k)) j))))), (hi, .inl (cJ, 511, .inr (.inl (fun j => lI (HQ j)))))] := hD
                      have hP9 : va_P (dC, dI) vwCl [(mo, .inr (3, [.int (nI 0), .int (nI (2 ^ k)), .ref ma, .ref mb, .int (nI (cntK 2 k)), .ref lo, .ref hi, .ref kp, .ref ot, .ref su])), (ma, .inl (cI, 256, .inl fa)), (mb, .inl (cI, 256, .inl fb)), (lo, .inl (cJ, 511, .inr (.inl (fun j => lI ((acc (zrL LW (cntK 2 k)) 2 (2 ^ k) fa fb (2 ^ k)) j))))), (hi, .inl (cJ, 511, .inr (.inl (fun j => lI (HQ j)))))] H := hP.sub [0, 1, 2, 3, 4] rfl
                      have hD9 : va_D A [(mo, .inr (3, [.int (nI 0), .int (nI (2 ^ k)), .ref ma, .ref mb, .int (nI (cntK 2 k)), .ref lo, .ref hi, .ref kp, .ref ot, .ref su])), (ma, .inl (cI, 256, .inl fa)), (mb, .inl (cI, 256, .inl fb)), (lo, .inl (cJ, 511, .inr (.inl (fun j => lI ((acc (zrL LW (cntK 2 k)) 2 (2 ^ k) fa fb (2 ^ k)) j))))), (hi, .inl (cJ, 511, .inr (.inl (fun j => lI (HQ j)))))] := hD.sub [0, 1, 2, 3, 4] (by decide) rfl
                      exact W.iret (v := nI (2 * 2 ^ k - 1)) hx hb hr (fun tq9 ht hW => ⟨⟨nI (2 * 2 ^ k - 1), HQ, rfl, ⟨rfl, hH⟩, by rw [ht]; exact hP9, hD9⟩, hS.F ht⟩) hS.2.2 dX4_fold_197
                    · have c_6 : ¬ (2 ^ k ≤ a) := fun zq9 => c_6 ((nI_leI (a := 2 ^ k) (b := a) (by omega) (by omega)).mpr zq9)
                      refine lv_iconst (v := nI 0) hx hb dX4_fold_91 (by decide) ?_
                      rw [show acc (zrL LW (2 * 2 ^ k - 1)) 2 (2 ^ k) fa fb a = accR (acc (zrL LW (2 * 2 ^ k - 1)) 2 (2 ^ k) fa fb a) 2 (2 ^ k) fa fb a 0 from rfl] at hP hD
                      have hP : va_P (dC, dI) vwCl [(mo, .inr (3, [.int (nI 0), .int (nI (2 ^ k)), .ref ma, .ref mb, .int (nI (2 * 2 ^ k - 1)), .ref lo, .ref hi, .ref kp, .ref ot, .ref su])), (ma, .inl (cI, 256, .inl fa)), (mb, .inl (cI, 256, .inl fb)), (lo, .inl (cJ, 511, .inr (.inl (fun j => lI ((accR (acc (zrL LW (2 * 2 ^ k - 1)) 2 (2 ^ k) fa fb a) 2 (2 ^ k) fa fb a 0) j))))), (hi, .inl (cJ, 511, .inr (.inl (fun j => lI (HQ j)))))] H := hP
                      have hD : va_D A [(mo, .inr (3, [.int (nI 0), .int (nI (2 ^ k)), .ref ma, .ref mb, .int (nI (2 * 2 ^ k - 1)), .ref lo, .ref hi, .ref kp, .ref ot, .ref su])), (ma, .inl (cI, 256, .inl fa)), (mb, .inl (cI, 256, .inl fb)), (lo, .inl (cJ, 511, .inr (.inl (fun j => lI ((accR (acc (zrL LW (2 * 2 ^ k - 1)) 2 (2 ^ k) fa fb a) 2 (2 ^ k) fa fb a 0) j))))), (hi, .inl (cJ, 511, .inr (.inl (fun j => lI (HQ j)))))] := hD
                      refine lv_istore_n (lv' := [(3, .int (nI 0)), (2, .int (nI a)), (1, .int (nI 2)), (0, .ref mo)]) hx hb dX4_fold_92 rfl hl (by decide) rfl (fun ls hl => ?_)
                      have key_93 : ∀ (fuel : Nat) (b : Nat) (HQ : Nat → Int), (b ≤ 2 ^ k) → (∀ i, i < 2 * 2 ^ k - 1 → HQ i = (accR (acc (zrL LW (2 * 2 ^ k - 1)) 2 (2 ^ k) fa fb a) 2 (2 ^ k) fa fb a b) i / 18446744073709551616) → (2 ^ k - b < fuel) → ∀ (H : Heap) (locs : List Loc) (ls : Array Slot), va_P (dC, dI) vwCl [(mo, .inr (3, [.int (nI 0), .int (nI (2 ^ k)), .ref ma, .ref mb, .int (nI (2 * 2 ^ k - 1)), .ref lo, .ref hi, .ref kp, .ref ot, .ref su])), (ma, .inl (cI, 256, .inl fa)), (mb, .inl (cI, 256, .inl fb)), (lo, .inl (cJ, 511, .inr (.inl (fun j => lI ((accR (acc (zrL LW (2 * 2 ^ k - 1)) 2 (2 ^ k) fa fb a) 2 (2 ^ k) fa fb a b) j))))), (hi, .inl (cJ, 511, .inr (.inl (fun j => lI (HQ j)))))] H → va_D A [(mo, .inr (3, [.int (nI 0), .int (nI (2 ^ k)), .ref ma, .ref mb, .int (nI (2 * 2 ^ k - 1)), .ref lo, .ref hi, .ref kp, .ref ot, .ref su])), (ma, .inl (cI, 256, .inl fa)), (mb, .inl (cI, 256, .inl fb)), (lo, .inl (cJ, 511, .inr (.inl (fun j => lI ((accR (acc (zrL LW (2 * 2 ^ k - 1)) 2 (2 ^ k) fa fb a) 2 (2 ^ k) fa fb a b) j))))), (hi, .inl (cJ, 511, .inr (.inl (fun j => lI (HQ j)))))] → va_S A s.heap H locs → lv_has ls 7 [(3, .int (nI b)), (2, .int (nI a)), (1, .int (nI 2)), (0, .ref mo)] → W p l e (headSpec wsX4_fold { frames := 1, cells := 0, slots := 0, locals := 26 }).room s m ([.ref mo, .int (nI 2)] : List Value).toArray below meth c H locs 0 0 (MQ below (q_X4_fold_2 dC dI mo ma mb lo hi kp ot su k rs tv cI cJ fa fb LW HW  A) ([.ref mo, .int (nI 2)] : List Value).toArray s 0 0 A) (F0 m 93 ls []) := by
                        intro fuel
                        induction fuel with
                        | zero => intro b HQ; intros; omega
                        | succ fuel ih_93 =>
                          intro b HQ hb9 hH hfu H locs ls hP hD hS hl
                          refine lv_iload_n hx hb dX4_fold_93 rfl (lv_at hl 0 rfl) ?_
                          refine lv_aload_n hx hb dX4_fold_94 rfl (lv_at hl 3 rfl) ?_
                          refine va_get (D := (dC, dI)) (ci := 3) (v := .int (nI (2 ^ k))) (C := RX4) (T := TX4) (N := 10) hx hb hts (by decide +kernel) hown hK hP 0 rfl rfl 1 (by decide) (hts (.fieldLink RX4 7 "ThreePrimesModel" "n" "I") (by decide +kernel)) (fun _ h9 => h9) rfl dX4_fold_95 ?_
                          refine lv_icmp_ge (tgt := 187) hx hb dX4_fold_98 (by decide) (fun c_7 => ?_) (fun c_7 => ?_)
                          · have c_7 : 2 ^ k ≤ b := (nI_leI (a := 2 ^ k) (b := b) (by omega) (by omega)).mp c_7
                            rw [show accR (acc (zrL LW (2 * 2 ^ k - 1)) 2 (2 ^ k) fa fb a) 2 (2 ^ k) fa fb a b = acc (zrL LW (2 * 2 ^ k - 1)) 2 (2 ^ k) fa fb (a + 1) from by rw [show b = 2 ^ k by omega]; rfl] at hP hD
                            have hP : va_P (dC, dI) vwCl [(mo, .inr (3, [.int (nI 0), .int (nI (2 ^ k)), .ref ma, .ref mb, .int (nI (2 * 2 ^ k - 1)), .ref lo, .ref hi, .ref kp, .ref ot, .ref su])), (ma, .inl (cI, 256, .inl fa)), (mb, .inl (cI, 256, .inl fb)), (lo, .inl (cJ, 511, .inr (.inl (fun j => lI ((acc (zrL LW (2 * 2 ^ k - 1)) 2 (2 ^ k) fa fb (a + 1)) j))))), (hi, .inl (cJ, 511, .inr (.inl (fun j => lI (HQ j)))))] H := hP
                            have hD : va_D A [(mo, .inr (3, [.int (nI 0), .int (nI (2 ^ k)), .ref ma, .ref mb, .int (nI (2 * 2 ^ k - 1)), .ref lo, .ref hi, .ref kp, .ref ot, .ref su])), (ma, .inl (cI, 256, .inl fa)), (mb, .inl (cI, 256, .inl fb)), (lo, .inl (cJ, 511, .inr (.inl (fun j => lI ((acc (zrL LW (2 * 2 ^ k - 1)) 2 (2 ^ k) fa fb (a + 1)) j))))), (hi, .inl (cJ, 511, .inr (.inl (fun j => lI (HQ j)))))] := hD
                            refine lv_iinc (v := nI (a + 1)) (lv' := [(2, .int (nI (a + 1))), (3, .int (nI b)), (1, .int (nI 2)), (0, .ref mo)]) hx hb dX4_fold_187 hl (k := 1) rfl (nI_add a 1) (by decide) rfl (fun ls hl => ?_)
                            refine lv_goto (tgt := 83) hx hb dX4_fold_190 (by decide) ?_
                            exact ih_83  (a + 1) HQ (by omega) (by rw [show b = 2 ^ k by omega] at hH; exact hH) (by omega) _ _ _ (hP.sub [0, 1, 2, 3, 4] rfl) (hD.sub [0, 1, 2, 3, 4] (by decide) rfl) hS (lv_sub hl [0, 2, 3] rfl)
                          · have c_7 : ¬ (2 ^ k ≤ b) := fun zq9 => c_7 ((nI_leI (a := 2 ^ k) (b := b) (by omega) (by omega)).mpr zq9)
                            have mb9 := mul_i32 (fa a) (fb b)
                            refine lv_aload_n hx hb dX4_fold_101 rfl (lv_at hl 3 rfl) ?_
                            refine va_get (D := (dC, dI)) (ci := 3) (v := .ref ma) (C := RX4) (T := TX4) (N := 10) hx hb hts (by decide +kernel) hown hK hP 0 rfl rfl 2 (by decide) (hts (.fieldLink RX4 13 "ThreePrimesModel" "a" "[I") (by decide +kernel)) (fun _ h9 => h9) rfl dX4_fold_102 ?_
                            refine lv_iload_n hx hb dX4_fold_105 rfl (lv_at hl 1 rfl) ?_
                            refine va_iald hx hb hK hP 1 0 rfl rfl (vp_in_nI (by omega) (by omega)) dX4_fold_106 ?_
                            refine W.eq (g2 := F0 m _ ls [.int (fa a)]) (by rw [nI_clamp (by omega)]) ?_
                            refine lv_i2l (v := lI ((fa a).toInt)) hx hb dX4_fold_107 (i2l_I (fa a)) ?_
                            refine lv_aload_n hx hb dX4_fold_108 rfl (lv_at hl 3 rfl) ?_
                            refine va_get (D := (dC, dI)) (ci := 3) (v := .ref mb) (C := RX4) (T := TX4) (N := 10) hx hb hts (by decide +kernel) hown hK hP 0 rfl rfl 3 (by decide) (hts (.fieldLink RX4 17 "ThreePrimesModel" "b" "[I") (by decide +kernel)) (fun _ h9 => h9) rfl dX4_fold_109 ?_
                            refine lv_iload_n hx hb dX4_fold_112 rfl (lv_at hl 0 rfl) ?_
                            refine va_iald hx hb hK hP 2 0 rfl rfl (vp_in_nI (by omega) (by omega)) dX4_fold_113 ?_
                            refine W.eq (g2 := F0 m _ ls [.int (fb b), .long (lI ((fa a).toInt))]) (by rw [nI_clamp (by omega)]) ?_
                            refine lv_i2l (v := lI ((fb b).toInt)) hx hb dX4_fold_114 (i2l_I (fb b)) ?_
                            refine lv_lmul hx hb dX4_fold_115 ?_
                            refine W.eq (congrArg (fun z => F0 m _ ls (.long z :: _)) (show lI ((fa a).toInt) * lI ((fb b).toInt) = lI (((fa a).toInt) * ((fb b).toInt)) from lI_mul ((fa a).toInt) ((fb b).toInt))) ?_
                            refine lv_lstore (lv' := [(4, .long (lI (((fa a).toInt) * ((fb b).toInt)))), (3, .int (nI b)), (2, .int (nI a)), (1, .int (nI 2)), (0, .ref mo)]) hx hb dX4_fold_116 hl (by decide) rfl (fun ls hl => ?_)
                            refine lv_iload_n hx hb dX4_fold_118 rfl (lv_at hl 3 rfl) ?_
                            refine lv_iconst (v := nI 2) hx hb dX4_fold_119 (by decide) ?_
                            refine lv_icmp_ge (tgt := 137) hx hb dX4_fold_120 (by decide) (fun c_8 => ?_) (fun c_8 => ?_)
                            · have c_8 : 2 ≤ 2 := (nI_leI (a := 2) (b := 2) (by omega) (by omega)).mp c_8
                              refine lv_iconst (v := nI 0) hx hb dX4_fold_137 (by decide) ?_
                              refine lv_istore (lv' := [(6, .int (nI 0)), (4, .long (lI (((fa a).toInt) * ((fb b).toInt)))), (3, .int (nI b)), (2, .int (nI a)), (1, .int (nI 2)), (0, .ref mo)]) hx hb dX4_fold_138 hl (by decide) rfl (fun ls hl => ?_)
                              refine lv_aload_n hx hb dX4_fold_140 rfl (lv_at hl 5 rfl) ?_
                              refine lv_iload hx hb dX4_fold_141 (lv_at hl 0 rfl) ?_
                              refine lv_if_eq (tgt := 157) hx hb dX4_fold_143 (by decide) (fun c_9 => ?_) (fun c_9 => ?_)
                              · have c_9 : 0 = 0 := (nI_eq (a := 0) (b := 0) (by omega) (by omega)).mp c_9
                                refine lv_iload_n hx hb dX4_fold_157 rfl (lv_at hl 3 rfl) ?_
                                refine lv_iload_n hx hb dX4_fold_158 rfl (lv_at hl 2 rfl) ?_
                                refine lv_iadd hx hb dX4_fold_159 ?_
                                refine W.eq (congrArg (fun z => F0 m _ ls (.int z :: _)) (show (nI a) + (nI b) = nI (a + b) from nI_add a b)) ?_
                                refine lv_iload hx hb dX4_fold_160 (lv_at hl 0 rfl) ?_
                                refine lv_if_eq (tgt := 176) hx hb dX4_fold_162 (by decide) (fun c_10 => ?_) (fun c_10 => ?_)
                                · have c_10 : 0 = 0 := (nI_eq (a := 0) (b := 0) (by omega) (by omega)).mp c_10
                                  refine lv_lload hx hb dX4_fold_176 (lv_at hl 1 rfl) ?_
                                  have hPc := hP.sub (ws' := [(mo, .inr (3, [.int (nI 0), .int (nI (2 ^ k)), .ref ma, .ref mb, .int (nI (2 * 2 ^ k - 1)), .ref lo, .ref hi, .ref kp, .ref ot, .ref su])), (lo, .inl (cJ, 511, .inr (.inl (fun j => lI ((accR (acc (zrL LW (2 * 2 ^ k - 1)) 2 (2 ^ k) fa fb a) 2 (2 ^ k) fa fb a b) j))))), (hi, .inl (cJ, 511, .inr (.inl (fun j => lI (HQ j)))))]) [0, 3, 4] rfl
                                  have hDc := hD.sub (ws' := [(mo, .inr (3, [.int (nI 0), .int (nI (2 ^ k)), .ref ma, .ref mb, .int (nI (2 * 2 ^ k - 1)), .ref lo, .ref hi, .ref kp, .ref ot, .ref su])), (lo, .inl (cJ, 511, .inr (.inl (fun j => lI ((accR (acc (zrL LW (2 * 2 ^ k - 1)) 2 (2 ^ k) fa fb a) 2 (2 ^ k) fa fb a b) j))))), (hi, .inl (cJ, 511, .inr (.inl (fun j => lI (HQ j)))))]) [0, 3, 4] (by decide) rfl
                                  have hKc := hK.sub (tys' := [(cJ, .long)]) [1] rfl
                                  have hFc := va_free (wc := [(mo, .inr (3, [.int (nI 0), .int (nI (2 ^ k)), .ref ma, .ref mb, .int (nI (2 * 2 ^ k - 1)), .ref lo, .ref hi, .ref kp, .ref ot, .ref su])), (lo, .inl (cJ, 511, .inr (.inl (fun j => lI ((accR (acc (zrL LW (2 * 2 ^ k - 1)) 2 (2 ^ k) fa fb a) 2 (2 ^ k) fa fb a b) j))))), (hi, .inl (cJ, 511, .inr (.inl (fun j => lI (HQ j)))))]) hD hS hA [0, 3, 4] rfl
                                  refine va_callv (va_runV (As := [.int (nI (a + b)), .long (lI (((fa a).toInt) * ((fb b).toInt)))]) (rest := []) ⟨hx, hb, hml, hown, hts⟩ (c_X4_add l dC dI mo ma mb lo hi kp ot su k (2 * 2 ^ k - 1) (nI 0) cJ (accR (acc (zrL LW (2 * 2 ^ k - 1)) 2 (2 ^ k) fa fb a) 2 (2 ^ k) fa fb a b) HQ (a + b) (((fa a).toInt) * ((fb b).toInt)) H.size (by omega) (by omega) (by omega) (hH _ (by omega))) (cwV 2 hts gX4_fold_X4_add rfl rfl rfl (by decide +kernel) ⟨Nat.le_of_ble_eq_true rfl, Nat.le_of_ble_eq_true rfl⟩) ⟨fun a U g mk q => by obtain ⟨q0, q1, qP, qK, qD⟩ := q; exact ⟨q0, q1, qP, va_K.moved (u := U) (U := U.calling g mk a) (Vm.Alike.refl U.vm) qK, qD⟩, va_recv hKc hPc (ci := 3) (q0 := 0) rfl rfl, fun U hU hW => ⟨rfl, by rw [hU], by rw [hU]; exact hPc, va_K.moved hW.alike hKc, hDc.weaken (fun _ _ _ _ => trivial)⟩⟩ rfl rfl hl.1 rfl (lv_room (Nat.le_of_ble_eq_true rfl)) dX4_fold_178 ⟨Nat.le_of_ble_eq_true rfl, Nat.le_of_ble_eq_true rfl⟩) hS (fun q _ h => hFc q h) hFc (fun u9 t9 H1 locs ht hvm hw hB hz1 hk1 hS => ?_)
                                  obtain ⟨hP1, hD1⟩ := hB
                                  rw [ht] at hP1
                                  try dsimp only at hw
                                  obtain ⟨hP, hD⟩ := va_join (wr := [(ma, .inl (cI, 256, .inl fa)), (mb, .inl (cI, 256, .inl fb))]) (w1 := [(mo, .inr (3, [.int (nI 0), .int (nI (2 ^ k)), .ref ma, .ref mb, .int (nI (2 * 2 ^ k - 1)), .ref lo, .ref hi, .ref kp, .ref ot, .ref su])), (lo, .inl (cJ, 511, .inr (.inl (fun j => lI ((upI (accR (acc (zrL LW (2 * 2 ^ k - 1)) 2 (2 ^ k) fa fb a) 2 (2 ^ k) fa fb a b) (a + b) ((accR (acc (zrL LW (2 * 2 ^ k - 1)) 2 (2 ^ k) fa fb a) 2 (2 ^ k) fa fb a b) (a + b) + (((fa a).toInt) * ((fb b).toInt)))) j))))), (hi, .inl (cJ, 511, .inr (.inl (fun j => lI ((upI HQ (a + b) (((accR (acc (zrL LW (2 * 2 ^ k - 1)) 2 (2 ^ k) fa fb a) 2 (2 ^ k) fa fb a b) (a + b) + (((fa a).toInt) * ((fb b).toInt))) / 18446744073709551616)) j)))))]) hP hD [0, 3, 4] [1, 2] rfl rfl (by decide) (by decide) hk1 hFc hP1 hD1
                                  generalize H1 = H at hP hS ⊢
                                  have hP : va_P (dC, dI) vwCl [(ma, .inl (cI, 256, .inl fa)), (mb, .inl (cI, 256, .inl fb)), (mo, .inr (3, [.int (nI 0), .int (nI (2 ^ k)), .ref ma, .ref mb, .int (nI (2 * 2 ^ k - 1)), .ref lo, .ref hi, .ref kp, .ref ot, .ref su])), (lo, .inl (cJ, 511, .inr (.inl (fun j => lI ((upI (accR (acc (zrL LW (2 * 2 ^ k - 1)) 2 (2 ^ k) fa fb a) 2 (2 ^ k) fa fb a b) (a + b) ((accR (acc (zrL LW (2 * 2 ^ k - 1)) 2 (2 ^ k) fa fb a) 2 (2 ^ k) fa fb a b) (a + b) + (((fa a).toInt) * ((fb b).toInt)))) j))))), (hi, .inl (cJ, 511, .inr (.inl (fun j => lI ((upI HQ (a + b) (((accR (acc (zrL LW (2 * 2 ^ k - 1)) 2 (2 ^ k) fa fb a) 2 (2 ^ k) fa fb a b) (a + b) + (((fa a).toInt) * ((fb b).toInt))) / 18446744073709551616)) j)))))] H := hP
                                  have hD : va_D A [(ma, .inl (cI, 256, .inl fa)), (mb, .inl (cI, 256, .inl fb)), (mo, .inr (3, [.int (nI 0), .int (nI (2 ^ k)), .ref ma, .ref mb, .int (nI (2 * 2 ^ k - 1)), .ref lo, .ref hi, .ref kp, .ref ot, .ref su])), (lo, .inl (cJ, 511, .inr (.inl (fun j => lI ((upI (accR (acc (zrL LW (2 * 2 ^ k - 1)) 2 (2 ^ k) fa fb a) 2 (2 ^ k) fa fb a b) (a + b) ((accR (acc (zrL LW (2 * 2 ^ k - 1)) 2 (2 ^ k) fa fb a) 2 (2 ^ k) fa fb a b) (a + b) + (((fa a).toInt) * ((fb b).toInt)))) j))))), (hi, .inl (cJ, 511, .inr (.inl (fun j => lI ((upI HQ (a + b) (((accR (acc (zrL LW (2 * 2 ^ k - 1)) 2 (2 ^ k) fa fb a) 2 (2 ^ k) fa fb a b) (a + b) + (((fa a).toInt) * ((fb b).toInt))) / 18446744073709551616)) j)))))] := hD
                                  clear hPc hDc hKc hFc hP1 hD1 hk1 hz1 hvm ht
                                  clear hw
                                  have hH2 := hH_s (t := a + b) (v := ((fa a).toInt) * ((fb b).toInt)) hH
                                  rw [accR_s (kd := 2) (n := 2 ^ k) (f := fa) (g := fb) (a := a) (b := b) (t := a + b) (v := ((fa a).toInt) * ((fb b).toInt)) (if_neg (by omega)) (if_neg (by omega))] at hH2
                                  rw [show upI (accR (acc (zrL LW (2 * 2 ^ k - 1)) 2 (2 ^ k) fa fb a) 2 (2 ^ k) fa fb a b) (a + b) ((accR (acc (zrL LW (2 * 2 ^ k - 1)) 2 (2 ^ k) fa fb a) 2 (2 ^ k) fa fb a b) (a + b) + (((fa a).toInt) * ((fb b).toInt))) = accR (acc (zrL LW (2 * 2 ^ k - 1)) 2 (2 ^ k) fa fb a) 2 (2 ^ k) fa fb a (b + 1) from accR_s (if_neg (by omega)) (if_neg (by omega))] at hP hD
                                  have hP : va_P (dC, dI) vwCl [(ma, .inl (cI, 256, .inl fa)), (mb, .inl (cI, 256, .inl fb)), (mo, .inr (3, [.int (nI 0), .int (nI (2 ^ k)), .ref ma, .ref mb, .int (nI (2 * 2 ^ k - 1)), .ref lo, .ref hi, .ref kp, .ref ot, .ref su])), (lo, .inl (cJ, 511, .inr (.inl (fun j => lI ((accR (acc (zrL LW (2 * 2 ^ k - 1)) 2 (2 ^ k) fa fb a) 2 (2 ^ k) fa fb a (b + 1)) j))))), (hi, .inl (cJ, 511, .inr (.inl (fun j => lI ((upI HQ (a + b) (((accR (acc (zrL LW (2 * 2 ^ k - 1)) 2 (2 ^ k) fa fb a) 2 (2 ^ k) fa fb a b) (a + b) + (((fa a).toInt) * ((fb b).toInt))) / 18446744073709551616)) j)))))] H := hP
                                  have hD : va_D A [(ma, .inl (cI, 256, .inl fa)), (mb, .inl (cI, 256, .inl fb)), (mo, .inr (3, [.int (nI 0), .int (nI (2 ^ k)), .ref ma, .ref mb, .int (nI (2 * 2 ^ k - 1)), .ref lo, .ref hi, .ref kp, .ref ot, .ref su])), (lo, .inl (cJ, 511, .inr (.inl (fun j => lI ((accR (acc (zrL LW (2 * 2 ^ k - 1)) 2 (2 ^ k) fa fb a) 2 (2 ^ k) fa fb a (b + 1)) j))))), (hi, .inl (cJ, 511, .inr (.inl (fun j => lI ((upI HQ (a + b) (((accR (acc (zrL LW (2 * 2 ^ k - 1)) 2 (2 ^ k) fa fb a) 2 (2 ^ k) fa fb a b) (a + b) + (((fa a).toInt) * ((fb b).toInt))) / 18446744073709551616)) j)))))] := hD
                                  refine lv_iinc (v := nI (b + 1)) (lv' := [(3, .int (nI (b + 1))), (6, .int (nI 0)), (4, .long (lI (((fa a).toInt) * ((fb b).toInt)))), (2, .int (nI a)), (1, .int (nI 2)), (0, .ref mo)]) hx hb dX4_fold_181 hl (k := 2) rfl (nI_add b 1) (by decide) rfl (fun ls hl => ?_)
                                  refine lv_goto (tgt := 93) hx hb dX4_fold_184 (by decide) ?_
                                  exact ih_93  (b + 1) (upI HQ (a + b) (((accR (acc (zrL LW (2 * 2 ^ k - 1)) 2 (2 ^ k) fa fb a) 2 (2 ^ k) fa fb a b) (a + b) + (((fa a).toInt) * ((fb b).toInt))) / 18446744073709551616)) (by omega) (hH2) (by omega) _ _ _ (hP.sub [2, 0, 1, 3, 4] rfl) (hD.sub [2, 0, 1, 3, 4] (by decide) rfl) hS (lv_sub hl [0, 3, 4, 5] rfl)
                                · have c_10 : ¬ (0 = 0) := fun zq9 => c_10 ((nI_eq (a := 0) (b := 0) (by omega) (by omega)).mpr zq9)
                                  omega
                              · have c_9 : ¬ (0 = 0) := fun zq9 => c_9 ((nI_eq (a := 0) (b := 0) (by omega) (by omega)).mpr zq9)
                                omega
                            · have c_8 : ¬ (2 ≤ 2) := fun zq9 => c_8 ((nI_leI (a := 2) (b := 2) (by omega) (by omega)).mpr zq9)
                              omega
                      exact key_93 (2 ^ k + 1) 0 HQ (by omega) (hH) (by omega) _ _ _ (hP.sub [0, 1, 2, 3, 4] rfl) (hD.sub [0, 1, 2, 3, 4] (by decide) rfl) hS (lv_sub hl [0, 1, 2, 3] rfl)
                exact key_83 (2 ^ k + 1) 0 (zrL HW (2 * 2 ^ k - 1)) (by omega) (zrL_h) (by omega) _ _ _ (hP.sub [0, 1, 2, 3, 4] rfl) (hD.sub [0, 1, 2, 3, 4] (by decide) rfl) hS (lv_sub hl [0, 1, 2] rfl)
              · have c_5 : ¬ (2 * 2 ^ k - 1 ≤ t) := fun zq9 => c_5 ((nI_leI (a := 2 * 2 ^ k - 1) (b := t) (by omega) (by omega)).mpr zq9)
                refine lv_aload_n hx hb dX4_fold_61 rfl (lv_at hl 2 rfl) ?_
                refine va_get (D := (dC, dI)) (ci := 3) (v := .ref lo) (C := RX4) (T := TX4) (N := 10) hx hb hts (by decide +kernel) hown hK hP 0 rfl rfl 5 (by decide) (hts (.fieldLink RX4 20 "ThreePrimesModel" "low" "[J") (by decide +kernel)) (fun _ h9 => h9) rfl dX4_fold_62 ?_
                refine lv_iload_n hx hb dX4_fold_65 rfl (lv_at hl 0 rfl) ?_
                refine lv_lconst (v := lI 0) hx hb dX4_fold_66 (by decide) ?_
                refine va_last hx hb hK hP hD hS 3 1 rfl rfl (vp_in_nI (by omega) (by omega)) dX4_fold_67 (fun H locs hP hD hS => ?_)
                rw [nI_clamp (show t < 2 ^ 31 by omega)] at hP hD
                rw [upI_l] at hP hD
                have hP : va_P (dC, dI) vwCl [(mo, .inr (3, [.int (nI 0), .int (nI (2 ^ k)), .ref ma, .ref mb, .int (nI (2 * 2 ^ k - 1)), .ref lo, .ref hi, .ref kp, .ref ot, .ref su])), (ma, .inl (cI, 256, .inl fa)), (mb, .inl (cI, 256, .inl fb)), (lo, .inl (cJ, 511, .inr (.inl (fun j => lI ((upI (zrL LW t) t 0) j))))), (hi, .inl (cJ, 511, .inr (.inl (fun j => lI ((zrL HW t) j)))))] H := hP
                have hD : va_D A [(mo, .inr (3, [.int (nI 0), .int (nI (2 ^ k)), .ref ma, .ref mb, .int (nI (2 * 2 ^ k - 1)), .ref lo, .ref hi, .ref kp, .ref ot, .ref su])), (ma, .inl (cI, 256, .inl fa)), (mb, .inl (cI, 256, .inl fb)), (lo, .inl (cJ, 511, .inr (.inl (fun j => lI ((upI (zrL LW t) t 0) j))))), (hi, .inl (cJ, 511, .inr (.inl (fun j => lI ((zrL HW t) j)))))] := hD
                rw [show upI (zrL LW t) t 0 = zrL LW (t + 1) from zrL_s] at hP hD
                have hP : va_P (dC, dI) vwCl [(mo, .inr (3, [.int (nI 0), .int (nI (2 ^ k)), .ref ma, .ref mb, .int (nI (2 * 2 ^ k - 1)), .ref lo, .ref hi, .ref kp, .ref ot, .ref su])), (ma, .inl (cI, 256, .inl fa)), (mb, .inl (cI, 256, .inl fb)), (lo, .inl (cJ, 511, .inr (.inl (fun j => lI ((zrL LW (t + 1)) j))))), (hi, .inl (cJ, 511, .inr (.inl (fun j => lI ((zrL HW t) j)))))] H := hP
                have hD : va_D A [(mo, .inr (3, [.int (nI 0), .int (nI (2 ^ k)), .ref ma, .ref mb, .int (nI (2 * 2 ^ k - 1)), .ref lo, .ref hi, .ref kp, .ref ot, .ref su])), (ma, .inl (cI, 256, .inl fa)), (mb, .inl (cI, 256, .inl fb)), (lo, .inl (cJ, 511, .inr (.inl (fun j => lI ((zrL LW (t + 1)) j))))), (hi, .inl (cJ, 511, .inr (.inl (fun j => lI ((zrL HW t) j)))))] := hD
                refine lv_aload_n hx hb dX4_fold_68 rfl (lv_at hl 2 rfl) ?_
                refine va_get (D := (dC, dI)) (ci := 3) (v := .ref hi) (C := RX4) (T := TX4) (N := 10) hx hb hts (by decide +kernel) hown hK hP 0 rfl rfl 6 (by decide) (hts (.fieldLink RX4 24 "ThreePrimesModel" "high" "[J") (by decide +kernel)) (fun _ h9 => h9) rfl dX4_fold_69 ?_
                refine lv_iload_n hx hb dX4_fold_72 rfl (lv_at hl 0 rfl) ?_
                refine lv_lconst (v := lI 0) hx hb dX4_fold_73 (by decide) ?_
                refine va_last hx hb hK hP hD hS 4 1 rfl rfl (vp_in_nI (by omega) (by omega)) dX4_fold_74 (fun H locs hP hD hS => ?_)
                rw [nI_clamp (show t < 2 ^ 31 by omega)] at hP hD
                rw [upI_l] at hP hD
                have hP : va_P (dC, dI) vwCl [(mo, .inr (3, [.int (nI 0), .int (nI (2 ^ k)), .ref ma, .ref mb, .int (nI (2 * 2 ^ k - 1)), .ref lo, .ref hi, .ref kp, .ref ot, .ref su])), (ma, .inl (cI, 256, .inl fa)), (mb, .inl (cI, 256, .inl fb)), (lo, .inl (cJ, 511, .inr (.inl (fun j => lI ((zrL LW (t + 1)) j))))), (hi, .inl (cJ, 511, .inr (.inl (fun j => lI ((upI (zrL HW t) t 0) j)))))] H := hP
                have hD : va_D A [(mo, .inr (3, [.int (nI 0), .int (nI (2 ^ k)), .ref ma, .ref mb, .int (nI (2 * 2 ^ k - 1)), .ref lo, .ref hi, .ref kp, .ref ot, .ref su])), (ma, .inl (cI, 256, .inl fa)), (mb, .inl (cI, 256, .inl fb)), (lo, .inl (cJ, 511, .inr (.inl (fun j => lI ((zrL LW (t + 1)) j))))), (hi, .inl (cJ, 511, .inr (.inl (fun j => lI ((upI (zrL HW t) t 0) j)))))] := hD
                rw [show upI (zrL HW t) t 0 = zrL HW (t + 1) from zrL_s] at hP hD
                have hP : va_P (dC, dI) vwCl [(mo, .inr (3, [.int (nI 0), .int (nI (2 ^ k)), .ref ma, .ref mb, .int (nI (2 * 2 ^ k - 1)), .ref lo, .ref hi, .ref kp, .ref ot, .ref su])), (ma, .inl (cI, 256, .inl fa)), (mb, .inl (cI, 256, .inl fb)), (lo, .inl (cJ, 511, .inr (.inl (fun j => lI ((zrL LW (t + 1)) j))))), (hi, .inl (cJ, 511, .inr (.inl (fun j => lI ((zrL HW (t + 1)) j)))))] H := hP
                have hD : va_D A [(mo, .inr (3, [.int (nI 0), .int (nI (2 ^ k)), .ref ma, .ref mb, .int (nI (2 * 2 ^ k - 1)), .ref lo, .ref hi, .ref kp, .ref ot, .ref su])), (ma, .inl (cI, 256, .inl fa)), (mb, .inl (cI, 256, .inl fb)), (lo, .inl (cJ, 511, .inr (.inl (fun j => lI ((zrL LW (t + 1)) j))))), (hi, .inl (cJ, 511, .inr (.inl (fun j => lI ((zrL HW (t + 1)) j)))))] := hD
                refine lv_iinc (v := nI (t + 1)) (lv' := [(2, .int (nI (t + 1))), (1, .int (nI 2)), (0, .ref mo)]) hx hb dX4_fold_75 hl (k := 0) rfl (nI_add t 1) (by decide) rfl (fun ls hl => ?_)
                refine lv_goto (tgt := 53) hx hb dX4_fold_78 (by decide) ?_
                exact ih_53  (t + 1) (by omega) (by omega) _ _ _ (hP.sub [0, 1, 2, 3, 4] rfl) (hD.sub [0, 1, 2, 3, 4] (by decide) rfl) hS (lv_sub hl [0, 1, 2] rfl)
          exact key_53 (2 * 2 ^ k - 1 + 1) 0 (by omega) (by omega) _ _ _ (hP.sub [0, 1, 2, 3, 4] rfl) (hD.sub [0, 1, 2, 3, 4] (by decide) rfl) hS (lv_sub hl [0, 2, 1] rfl)
      · have c_3 : ¬ (0 ≤ 0) := fun zq9 => c_3 ((nI_leI (a := 0) (b := 0) (by omega) (by omega)).mpr zq9)
        omega
    · have c_2 : ¬ (2 ≤ 2) := fun zq9 => c_2 ((nI_leI (a := 2) (b := 2) (by omega) (by omega)).mpr zq9)
      omega

abbrev q_X4_fold_bad (dC : Nat → ClassId) (dI : Nat → Nat → Nat) (mo ma mb lo hi kp ot su k rs : Nat) (tv : Int32) (i : Int32) (A : Nat → Prop) : Array Value → State → Outcome → State → Prop := va_Qi (fun (r : Int32) (u : Unit) => True) (fun u t => va_P (dC, dI) vwCl [(mo, .inr (3, [.int (nI 1), .int (nI (2 ^ k)), .ref ma, .ref mb, .int (nI rs), .ref lo, .ref hi, .ref kp, .ref ot, .ref su]))] t.heap ∧ va_D A [(mo, .inr (3, [.int (nI 1), .int (nI (2 ^ k)), .ref ma, .ref mb, .int (nI rs), .ref lo, .ref hi, .ref kp, .ref ot, .ref su]))]) A
set_option maxHeartbeats 4000000 in
set_option maxRecDepth 100000 in
theorem c_X4_fold_bad (l : Launch) (dC : Nat → ClassId) (dI : Nat → Nat → Nat) (mo ma mb lo hi kp ot su k rs : Nat) (tv : Int32) (i : Int32) (sz : Nat) (hbad : i < 0 ∨ nI 2 < i) : Met l yX4_fold wsX4_fold ({ frames := 0, cells := 0, slots := 0, locals := 0 }) (va_Pc [.ref mo, .int i] (fun U => U.heap.size = sz ∧ va_P (dC, dI) vwCl [(mo, .inr (3, [.int tv, .int (nI (2 ^ k)), .ref ma, .ref mb, .int (nI rs), .ref lo, .ref hi, .ref kp, .ref ot, .ref su]))] U.heap ∧ va_K (dC, dI) vwCl [] U ∧ va_D (fun _ => True) [(mo, .inr (3, [.int tv, .int (nI (2 ^ k)), .ref ma, .ref mb, .int (nI rs), .ref lo, .ref hi, .ref kp, .ref ot, .ref su]))])) (q_X4_fold_bad dC dI mo ma mb lo hi kp ot su k rs tv i (va_A [(mo, .inr (3, [.int tv, .int (nI (2 ^ k)), .ref ma, .ref mb, .int (nI rs), .ref lo, .ref hi, .ref kp, .ref ot, .ref su]))] sz)) 0 0 (va_A [(mo, .inr (3, [.int tv, .int (nI (2 ^ k)), .ref ma, .ref mb, .int (nI rs), .ref lo, .ref hi, .ref kp, .ref ot, .ref su]))] sz) := by
  refine Met.ofW (cc := cX4_fold) (maxL := 7) (ret := (some .int)) (by decide) rfl ?_
  intro p e s m args below meth c s₁ B hml hv
  obtain ⟨rfl, hsz, hP, hK, hD0⟩ := hv
  have hx := B.exec
  have hb := B.bytes
  have hr := B.returns
  have hts := atoms_spec (ws := wsX4_fold) B.pre
  have hown : s.vm.findClass RX4 = some m.cls := findClass_of_methodNamed B.named
  have hlocks := B.notSynchronized
  subst hsz
  have hD := hD0.self (sz := s.heap.size)
  generalize hAe : va_A [(mo, .inr (3, [.int tv, .int (nI (2 ^ k)), .ref ma, .ref mb, .int (nI rs), .ref lo, .ref hi, .ref kp, .ref ot, .ref su]))] s.heap.size = A at hD ⊢
  have hA : ∀ q : Nat, s.heap.size ≤ q → A q := fun q h => by rw [← hAe]; exact Or.inr h
  have hS : va_S A s.heap s.heap [] := va_S.rf
  have hP : va_P (dC, dI) vwCl [(mo, .inr (3, [.int tv, .int (nI (2 ^ k)), .ref ma, .ref mb, .int (nI rs), .ref lo, .ref hi, .ref kp, .ref ot, .ref su]))] s.heap := hP
  have hl := lv_entry (([.ref mo, .int i] : List Value)) (n := 7) (Nat.le_of_ble_eq_true rfl)
  rw [lg_entry_eq]
  generalize (lg_sl (([.ref mo, .int i] : List Value)) ++ List.replicate (7 - (lg_sl (([.ref mo, .int i] : List Value))).length) Slot.unset).toArray = ls at hl ⊢
  have hl : lv_has ls 7 [(0, .ref mo), (1, .int i)] := hl
  obtain ⟨H, hHe⟩ : ∃ H : Heap, H = s.heap := ⟨_, rfl⟩
  rw [← hHe] at hP
  have hS : va_S A s.heap H [] := by rw [hHe]; exact hS
  obtain ⟨locs, hlo⟩ : ∃ L : List Loc, L = [] := ⟨_, rfl⟩
  rw [← hlo] at hS ⊢
  rw [← hHe]
  refine lv_aload_n hx hb dX4_fold_0 rfl (lv_at hl 0 rfl) ?_
  refine lv_iload_n hx hb dX4_fold_1 rfl (lv_at hl 1 rfl) ?_
  refine lv_if_lt (tgt := 10) hx hb dX4_fold_2 (by decide) (fun c_1 => ?_) (fun c_1 => ?_)
  · refine lv_iconst (v := nI 1) hx hb dX4_fold_10 (by decide) ?_
    refine lv_goto (tgt := 15) hx hb dX4_fold_11 (by decide) ?_
    refine va_put (D := (dC, dI)) (ci := 3) (v := .int (nI 1)) (ty := .int) (C := RX4) (T := TX4) (N := 10) hx hb hts (by decide +kernel) tyX4 tyX4_ok nmX4 hown hK hP hD hS 0 rfl rfl 0 (by decide) (hts (.fieldLink RX4 36 "ThreePrimesModel" "thrown" "I") (by decide +kernel)) (fun _ h9 => h9) rfl (by decide +kernel) rfl rfl (Nat.le_of_ble_eq_true rfl) dX4_fold_15 (fun H locs hP hD hS => ?_)
    have hP : va_P (dC, dI) vwCl [(mo, .inr (3, [.int (nI 1), .int (nI (2 ^ k)), .ref ma, .ref mb, .int (nI rs), .ref lo, .ref hi, .ref kp, .ref ot, .ref su]))] H := hP
    have hD : va_D A [(mo, .inr (3, [.int (nI 1), .int (nI (2 ^ k)), .ref ma, .ref mb, .int (nI rs), .ref lo, .ref hi, .ref kp, .ref ot, .ref su]))] := hD
    refine lv_aload_n hx hb dX4_fold_18 rfl (lv_at hl 0 rfl) ?_
    refine va_get (D := (dC, dI)) (ci := 3) (v := .int (nI 1)) (C := RX4) (T := TX4) (N := 10) hx hb hts (by decide +kernel) hown hK hP 0 rfl rfl 0 (by decide) (hts (.fieldLink RX4 36 "ThreePrimesModel" "thrown" "I") (by decide +kernel)) (fun _ h9 => h9) rfl dX4_fold_19 ?_
    refine lv_if_le (tgt := 27) hx hb dX4_fold_22 (by decide) (fun c_2 => ?_) (fun c_2 => ?_)
    · have c_2 : 1 ≤ 0 := (nI_leI (a := 1) (b := 0) (by omega) (by omega)).mp c_2
      omega
    · have c_2 : ¬ (1 ≤ 0) := fun zq9 => c_2 ((nI_leI (a := 1) (b := 0) (by omega) (by omega)).mpr zq9)
      refine lv_iconst (v := nI 0) hx hb dX4_fold_25 (by decide) ?_
      have hP9 : va_P (dC, dI) vwCl [(mo, .inr (3, [.int (nI 1), .int (nI (2 ^ k)), .ref ma, .ref mb, .int (nI rs), .ref lo, .ref hi, .ref kp, .ref ot, .ref su]))] H := hP.sub [0] rfl
      have hD9 : va_D A [(mo, .inr (3, [.int (nI 1), .int (nI (2 ^ k)), .ref ma, .ref mb, .int (nI rs), .ref lo, .ref hi, .ref kp, .ref ot, .ref su]))] := hD.sub [0] (by decide) rfl
      exact W.iret (v := nI 0) hx hb hr (fun tq9 ht hW => ⟨⟨nI 0, (), rfl, trivial, by rw [ht]; exact hP9, hD9⟩, hS.F ht⟩) hS.2.2 dX4_fold_26
  · refine lv_iload_n hx hb dX4_fold_5 rfl (lv_at hl 1 rfl) ?_
    refine lv_iconst (v := nI 2) hx hb dX4_fold_6 (by decide) ?_
    refine lv_icmp_le (tgt := 14) hx hb dX4_fold_7 (by decide) (fun c_3 => ?_) (fun c_3 => ?_)
    · exact absurd c_3 (Int32.not_le.mpr (hbad.resolve_left c_1))
    · refine lv_iconst (v := nI 1) hx hb dX4_fold_10 (by decide) ?_
      refine lv_goto (tgt := 15) hx hb dX4_fold_11 (by decide) ?_
      refine va_put (D := (dC, dI)) (ci := 3) (v := .int (nI 1)) (ty := .int) (C := RX4) (T := TX4) (N := 10) hx hb hts (by decide +kernel) tyX4 tyX4_ok nmX4 hown hK hP hD hS 0 rfl rfl 0 (by decide) (hts (.fieldLink RX4 36 "ThreePrimesModel" "thrown" "I") (by decide +kernel)) (fun _ h9 => h9) rfl (by decide +kernel) rfl rfl (Nat.le_of_ble_eq_true rfl) dX4_fold_15 (fun H locs hP hD hS => ?_)
      have hP : va_P (dC, dI) vwCl [(mo, .inr (3, [.int (nI 1), .int (nI (2 ^ k)), .ref ma, .ref mb, .int (nI rs), .ref lo, .ref hi, .ref kp, .ref ot, .ref su]))] H := hP
      have hD : va_D A [(mo, .inr (3, [.int (nI 1), .int (nI (2 ^ k)), .ref ma, .ref mb, .int (nI rs), .ref lo, .ref hi, .ref kp, .ref ot, .ref su]))] := hD
      refine lv_aload_n hx hb dX4_fold_18 rfl (lv_at hl 0 rfl) ?_
      refine va_get (D := (dC, dI)) (ci := 3) (v := .int (nI 1)) (C := RX4) (T := TX4) (N := 10) hx hb hts (by decide +kernel) hown hK hP 0 rfl rfl 0 (by decide) (hts (.fieldLink RX4 36 "ThreePrimesModel" "thrown" "I") (by decide +kernel)) (fun _ h9 => h9) rfl dX4_fold_19 ?_
      refine lv_if_le (tgt := 27) hx hb dX4_fold_22 (by decide) (fun c_4 => ?_) (fun c_4 => ?_)
      · have c_4 : 1 ≤ 0 := (nI_leI (a := 1) (b := 0) (by omega) (by omega)).mp c_4
        omega
      · have c_4 : ¬ (1 ≤ 0) := fun zq9 => c_4 ((nI_leI (a := 1) (b := 0) (by omega) (by omega)).mpr zq9)
        refine lv_iconst (v := nI 0) hx hb dX4_fold_25 (by decide) ?_
        have hP9 : va_P (dC, dI) vwCl [(mo, .inr (3, [.int (nI 1), .int (nI (2 ^ k)), .ref ma, .ref mb, .int (nI rs), .ref lo, .ref hi, .ref kp, .ref ot, .ref su]))] H := hP.sub [0] rfl
        have hD9 : va_D A [(mo, .inr (3, [.int (nI 1), .int (nI (2 ^ k)), .ref ma, .ref mb, .int (nI rs), .ref lo, .ref hi, .ref kp, .ref ot, .ref su]))] := hD.sub [0] (by decide) rfl
        exact W.iret (v := nI 0) hx hb hr (fun tq9 ht hW => ⟨⟨nI 0, (), rfl, trivial, by rw [ht]; exact hP9, hD9⟩, hS.F ht⟩) hS.2.2 dX4_fold_26

abbrev q_X4_foldKept (dC : Nat → ClassId) (dI : Nat → Nat → Nat) (mo ma mb lo hi kp ot su k rs : Nat) (tv : Int32) (cI : ClassId) (fk fo fs : Nat → Int32) (A : Nat → Prop) : Array Value → State → Outcome → State → Prop := va_Qv (fun (u : Unit) => True) (fun u t => va_P (dC, dI) vwCl [(mo, .inr (3, [.int tv, .int (nI (2 ^ k)), .ref ma, .ref mb, .int (nI rs), .ref lo, .ref hi, .ref kp, .ref ot, .ref su])), (kp, .inl (cI, 256, .inl (mix (ai (zrI fs (2 ^ k)) (2 ^ k) fk fo (2 ^ k)) fk (2 ^ k)))), (ot, .inl (cI, 256, .inl fo)), (su, .inl (cI, 256, .inl (ai (zrI fs (2 ^ k)) (2 ^ k) fk fo (2 ^ k))))] t.heap ∧ va_D A [(mo, .inr (3, [.int tv, .int (nI (2 ^ k)), .ref ma, .ref mb, .int (nI rs), .ref lo, .ref hi, .ref kp, .ref ot, .ref su])), (kp, .inl (cI, 256, .inl (mix (ai (zrI fs (2 ^ k)) (2 ^ k) fk fo (2 ^ k)) fk (2 ^ k)))), (ot, .inl (cI, 256, .inl fo)), (su, .inl (cI, 256, .inl (ai (zrI fs (2 ^ k)) (2 ^ k) fk fo (2 ^ k))))]) A
set_option maxHeartbeats 4000000 in
set_option maxRecDepth 100000 in
theorem c_X4_foldKept (l : Launch) (dC : Nat → ClassId) (dI : Nat → Nat → Nat) (mo ma mb lo hi kp ot su k rs : Nat) (tv : Int32) (cI : ClassId) (fk fo fs : Nat → Int32) (sz : Nat) (zk1 : 1 ≤ k) (zk : k ≤ 8) : Met l yX4_foldKept wsX4_foldKept ({ frames := 0, cells := 0, slots := 0, locals := 0 }) (va_Pc [.ref mo] (fun U => U.heap.size = sz ∧ va_P (dC, dI) vwCl [(mo, .inr (3, [.int tv, .int (nI (2 ^ k)), .ref ma, .ref mb, .int (nI rs), .ref lo, .ref hi, .ref kp, .ref ot, .ref su])), (kp, .inl (cI, 256, .inl fk)), (ot, .inl (cI, 256, .inl fo)), (su, .inl (cI, 256, .inl fs))] U.heap ∧ va_K (dC, dI) vwCl [(cI, .int)] U ∧ va_D (fun _ => True) [(mo, .inr (3, [.int tv, .int (nI (2 ^ k)), .ref ma, .ref mb, .int (nI rs), .ref lo, .ref hi, .ref kp, .ref ot, .ref su])), (kp, .inl (cI, 256, .inl fk)), (ot, .inl (cI, 256, .inl fo)), (su, .inl (cI, 256, .inl fs))])) (q_X4_foldKept dC dI mo ma mb lo hi kp ot su k rs tv cI fk fo fs (va_A [(mo, .inr (3, [.int tv, .int (nI (2 ^ k)), .ref ma, .ref mb, .int (nI rs), .ref lo, .ref hi, .ref kp, .ref ot, .ref su])), (kp, .inl (cI, 256, .inl fk)), (ot, .inl (cI, 256, .inl fo)), (su, .inl (cI, 256, .inl fs))] sz)) 0 0 (va_A [(mo, .inr (3, [.int tv, .int (nI (2 ^ k)), .ref ma, .ref mb, .int (nI rs), .ref lo, .ref hi, .ref kp, .ref ot, .ref su])), (kp, .inl (cI, 256, .inl fk)), (ot, .inl (cI, 256, .inl fo)), (su, .inl (cI, 256, .inl fs))] sz) := by
  refine Met.ofW (cc := cX4_foldKept) (maxL := 5) (ret := none) (by decide) rfl ?_
  intro p e s m args below meth c s₁ B hml hv
  obtain ⟨rfl, hsz, hP, hK, hD0⟩ := hv
  have hx := B.exec
  have hb := B.bytes
  have hr := B.returns
  have hts := atoms_spec (ws := wsX4_foldKept) B.pre
  have hown : s.vm.findClass RX4 = some m.cls := findClass_of_methodNamed B.named
  have hlocks := B.notSynchronized
  subst hsz
  have hD := hD0.self (sz := s.heap.size)
  generalize hAe : va_A [(mo, .inr (3, [.int tv, .int (nI (2 ^ k)), .ref ma, .ref mb, .int (nI rs), .ref lo, .ref hi, .ref kp, .ref ot, .ref su])), (kp, .inl (cI, 256, .inl fk)), (ot, .inl (cI, 256, .inl fo)), (su, .inl (cI, 256, .inl fs))] s.heap.size = A at hD ⊢
  have hA : ∀ q : Nat, s.heap.size ≤ q → A q := fun q h => by rw [← hAe]; exact Or.inr h
  have hS : va_S A s.heap s.heap [] := va_S.rf
  have hP : va_P (dC, dI) vwCl [(mo, .inr (3, [.int tv, .int (nI (2 ^ k)), .ref ma, .ref mb, .int (nI rs), .ref lo, .ref hi, .ref kp, .ref ot, .ref su])), (kp, .inl (cI, 256, .inl fk)), (ot, .inl (cI, 256, .inl fo)), (su, .inl (cI, 256, .inl fs))] s.heap := hP
  have hl := lv_entry (([.ref mo] : List Value)) (n := 5) (Nat.le_of_ble_eq_true rfl)
  rw [lg_entry_eq]
  generalize (lg_sl (([.ref mo] : List Value)) ++ List.replicate (5 - (lg_sl (([.ref mo] : List Value))).length) Slot.unset).toArray = ls at hl ⊢
  have hl : lv_has ls 5 [(0, .ref mo)] := hl
  obtain ⟨H, hHe⟩ : ∃ H : Heap, H = s.heap := ⟨_, rfl⟩
  rw [← hHe] at hP
  have hS : va_S A s.heap H [] := by rw [hHe]; exact hS
  obtain ⟨locs, hlo⟩ : ∃ L : List Loc, L = [] := ⟨_, rfl⟩
  rw [← hlo] at hS ⊢
  rw [← hHe]
  have hpk := pw8 zk
  refine lv_aload_n hx hb dX4_foldKept_0 rfl (lv_at hl 0 rfl) ?_
  refine va_get (D := (dC, dI)) (ci := 3) (v := .ref su) (C := RX4) (T := TX4) (N := 10) hx hb hts (by decide +kernel) hown hK hP 0 rfl rfl 9 (by decide) (hts (.fieldLink RX4 33 "ThreePrimesModel" "sums" "[I") (by decide +kernel)) (fun _ h9 => h9) rfl dX4_foldKept_1 ?_
  refine lv_astore_n (lv' := [(1, .ref su), (0, .ref mo)]) hx hb dX4_foldKept_4 rfl hl (by decide) rfl (fun ls hl => ?_)
  refine lv_iconst (v := nI 0) hx hb dX4_foldKept_5 (by decide) ?_
  rw [show fs = zrI fs 0 from (zrI_0 _).symm] at hP hD
  have hP : va_P (dC, dI) vwCl [(mo, .inr (3, [.int tv, .int (nI (2 ^ k)), .ref ma, .ref mb, .int (nI rs), .ref lo, .ref hi, .ref kp, .ref ot, .ref su])), (kp, .inl (cI, 256, .inl fk)), (ot, .inl (cI, 256, .inl fo)), (su, .inl (cI, 256, .inl (zrI fs 0)))] H := hP
  have hD : va_D A [(mo, .inr (3, [.int tv, .int (nI (2 ^ k)), .ref ma, .ref mb, .int (nI rs), .ref lo, .ref hi, .ref kp, .ref ot, .ref su])), (kp, .inl (cI, 256, .inl fk)), (ot, .inl (cI, 256, .inl fo)), (su, .inl (cI, 256, .inl (zrI fs 0)))] := hD
  refine lv_istore_n (lv' := [(2, .int (nI 0)), (1, .ref su), (0, .ref mo)]) hx hb dX4_foldKept_6 rfl hl (by decide) rfl (fun ls hl => ?_)
  have key_7 : ∀ (fuel : Nat) (t : Nat), (t ≤ 2 ^ k) → (2 ^ k - t < fuel) → ∀ (H : Heap) (locs : List Loc) (ls : Array Slot), va_P (dC, dI) vwCl [(mo, .inr (3, [.int tv, .int (nI (2 ^ k)), .ref ma, .ref mb, .int (nI rs), .ref lo, .ref hi, .ref kp, .ref ot, .ref su])), (kp, .inl (cI, 256, .inl fk)), (ot, .inl (cI, 256, .inl fo)), (su, .inl (cI, 256, .inl (zrI fs t)))] H → va_D A [(mo, .inr (3, [.int tv, .int (nI (2 ^ k)), .ref ma, .ref mb, .int (nI rs), .ref lo, .ref hi, .ref kp, .ref ot, .ref su])), (kp, .inl (cI, 256, .inl fk)), (ot, .inl (cI, 256, .inl fo)), (su, .inl (cI, 256, .inl (zrI fs t)))] → va_S A s.heap H locs → lv_has ls 5 [(2, .int (nI t)), (1, .ref su), (0, .ref mo)] → W p l e (headSpec wsX4_foldKept { frames := 0, cells := 0, slots := 0, locals := 0 }).room s m ([.ref mo] : List Value).toArray below meth c H locs 0 0 (MQ below (q_X4_foldKept dC dI mo ma mb lo hi kp ot su k rs tv cI fk fo fs  A) ([.ref mo] : List Value).toArray s 0 0 A) (F0 m 7 ls []) := by
    intro fuel
    induction fuel with
    | zero => intro t; intros; omega
    | succ fuel ih_7 =>
      intro t ht hfu H locs ls hP hD hS hl
      refine lv_iload_n hx hb dX4_foldKept_7 rfl (lv_at hl 0 rfl) ?_
      refine lv_aload_n hx hb dX4_foldKept_8 rfl (lv_at hl 2 rfl) ?_
      refine va_get (D := (dC, dI)) (ci := 3) (v := .int (nI (2 ^ k))) (C := RX4) (T := TX4) (N := 10) hx hb hts (by decide +kernel) hown hK hP 0 rfl rfl 1 (by decide) (hts (.fieldLink RX4 7 "ThreePrimesModel" "n" "I") (by decide +kernel)) (fun _ h9 => h9) rfl dX4_foldKept_9 ?_
      refine lv_icmp_ge (tgt := 25) hx hb dX4_foldKept_12 (by decide) (fun c_1 => ?_) (fun c_1 => ?_)
      · have c_1 : 2 ^ k ≤ t := (nI_leI (a := 2 ^ k) (b := t) (by omega) (by omega)).mp c_1
        refine lv_iconst (v := nI 0) hx hb dX4_foldKept_25 (by decide) ?_
        rw [show zrI fs t = ai (zrI fs (2 ^ k)) (2 ^ k) fk fo 0 from by rw [show t = 2 ^ k by omega]; rfl] at hP hD
        have hP : va_P (dC, dI) vwCl [(mo, .inr (3, [.int tv, .int (nI (2 ^ k)), .ref ma, .ref mb, .int (nI rs), .ref lo, .ref hi, .ref kp, .ref ot, .ref su])), (kp, .inl (cI, 256, .inl fk)), (ot, .inl (cI, 256, .inl fo)), (su, .inl (cI, 256, .inl (ai (zrI fs (2 ^ k)) (2 ^ k) fk fo 0)))] H := hP
        have hD : va_D A [(mo, .inr (3, [.int tv, .int (nI (2 ^ k)), .ref ma, .ref mb, .int (nI rs), .ref lo, .ref hi, .ref kp, .ref ot, .ref su])), (kp, .inl (cI, 256, .inl fk)), (ot, .inl (cI, 256, .inl fo)), (su, .inl (cI, 256, .inl (ai (zrI fs (2 ^ k)) (2 ^ k) fk fo 0)))] := hD
        refine lv_istore_n (lv' := [(2, .int (nI 0)), (1, .ref su), (0, .ref mo)]) hx hb dX4_foldKept_26 rfl hl (by decide) rfl (fun ls hl => ?_)
        have key_27 : ∀ (fuel : Nat) (a : Nat), (a ≤ 2 ^ k) → (2 ^ k - a < fuel) → ∀ (H : Heap) (locs : List Loc) (ls : Array Slot), va_P (dC, dI) vwCl [(mo, .inr (3, [.int tv, .int (nI (2 ^ k)), .ref ma, .ref mb, .int (nI rs), .ref lo, .ref hi, .ref kp, .ref ot, .ref su])), (kp, .inl (cI, 256, .inl fk)), (ot, .inl (cI, 256, .inl fo)), (su, .inl (cI, 256, .inl (ai (zrI fs (2 ^ k)) (2 ^ k) fk fo a)))] H → va_D A [(mo, .inr (3, [.int tv, .int (nI (2 ^ k)), .ref ma, .ref mb, .int (nI rs), .ref lo, .ref hi, .ref kp, .ref ot, .ref su])), (kp, .inl (cI, 256, .inl fk)), (ot, .inl (cI, 256, .inl fo)), (su, .inl (cI, 256, .inl (ai (zrI fs (2 ^ k)) (2 ^ k) fk fo a)))] → va_S A s.heap H locs → lv_has ls 5 [(2, .int (nI a)), (1, .ref su), (0, .ref mo)] → W p l e (headSpec wsX4_foldKept { frames := 0, cells := 0, slots := 0, locals := 0 }).room s m ([.ref mo] : List Value).toArray below meth c H locs 0 0 (MQ below (q_X4_foldKept dC dI mo ma mb lo hi kp ot su k rs tv cI fk fo fs  A) ([.ref mo] : List Value).toArray s 0 0 A) (F0 m 27 ls []) := by
          intro fuel
          induction fuel with
          | zero => intro a; intros; omega
          | succ fuel ih_27 =>
            intro a ha hfu H locs ls hP hD hS hl
            refine lv_iload_n hx hb dX4_foldKept_27 rfl (lv_at hl 0 rfl) ?_
            refine lv_aload_n hx hb dX4_foldKept_28 rfl (lv_at hl 2 rfl) ?_
            refine va_get (D := (dC, dI)) (ci := 3) (v := .int (nI (2 ^ k))) (C := RX4) (T := TX4) (N := 10) hx hb hts (by decide +kernel) hown hK hP 0 rfl rfl 1 (by decide) (hts (.fieldLink RX4 7 "ThreePrimesModel" "n" "I") (by decide +kernel)) (fun _ h9 => h9) rfl dX4_foldKept_29 ?_
            refine lv_icmp_ge (tgt := 89) hx hb dX4_foldKept_32 (by decide) (fun c_2 => ?_) (fun c_2 => ?_)
            · have c_2 : 2 ^ k ≤ a := (nI_leI (a := 2 ^ k) (b := a) (by omega) (by omega)).mp c_2
              refine lv_iconst (v := nI 0) hx hb dX4_foldKept_89 (by decide) ?_
              rw [show ai (zrI fs (2 ^ k)) (2 ^ k) fk fo a = ai (zrI fs (2 ^ k)) (2 ^ k) fk fo (2 ^ k) from by rw [show a = 2 ^ k by omega]] at hP hD
              have hP : va_P (dC, dI) vwCl [(mo, .inr (3, [.int tv, .int (nI (2 ^ k)), .ref ma, .ref mb, .int (nI rs), .ref lo, .ref hi, .ref kp, .ref ot, .ref su])), (kp, .inl (cI, 256, .inl fk)), (ot, .inl (cI, 256, .inl fo)), (su, .inl (cI, 256, .inl (ai (zrI fs (2 ^ k)) (2 ^ k) fk fo (2 ^ k))))] H := hP
              have hD : va_D A [(mo, .inr (3, [.int tv, .int (nI (2 ^ k)), .ref ma, .ref mb, .int (nI rs), .ref lo, .ref hi, .ref kp, .ref ot, .ref su])), (kp, .inl (cI, 256, .inl fk)), (ot, .inl (cI, 256, .inl fo)), (su, .inl (cI, 256, .inl (ai (zrI fs (2 ^ k)) (2 ^ k) fk fo (2 ^ k))))] := hD
              rw [show fk = mix (ai (zrI fs (2 ^ k)) (2 ^ k) fk fo (2 ^ k)) fk 0 from (mix_0 _ _).symm] at hP hD
              have hP : va_P (dC, dI) vwCl [(mo, .inr (3, [.int tv, .int (nI (2 ^ k)), .ref ma, .ref mb, .int (nI rs), .ref lo, .ref hi, .ref kp, .ref ot, .ref su])), (kp, .inl (cI, 256, .inl (mix (ai (zrI fs (2 ^ k)) (2 ^ k) fk fo (2 ^ k)) fk 0))), (ot, .inl (cI, 256, .inl fo)), (su, .inl (cI, 256, .inl (ai (zrI fs (2 ^ k)) (2 ^ k) fk fo (2 ^ k))))] H := hP
              have hD : va_D A [(mo, .inr (3, [.int tv, .int (nI (2 ^ k)), .ref ma, .ref mb, .int (nI rs), .ref lo, .ref hi, .ref kp, .ref ot, .ref su])), (kp, .inl (cI, 256, .inl (mix (ai (zrI fs (2 ^ k)) (2 ^ k) fk fo (2 ^ k)) fk 0))), (ot, .inl (cI, 256, .inl fo)), (su, .inl (cI, 256, .inl (ai (zrI fs (2 ^ k)) (2 ^ k) fk fo (2 ^ k))))] := hD
              refine lv_istore_n (lv' := [(2, .int (nI 0)), (1, .ref su), (0, .ref mo)]) hx hb dX4_foldKept_90 rfl hl (by decide) rfl (fun ls hl => ?_)
              have key_91 : ∀ (fuel : Nat) (t : Nat), (t ≤ 2 ^ k) → (2 ^ k - t < fuel) → ∀ (H : Heap) (locs : List Loc) (ls : Array Slot), va_P (dC, dI) vwCl [(mo, .inr (3, [.int tv, .int (nI (2 ^ k)), .ref ma, .ref mb, .int (nI rs), .ref lo, .ref hi, .ref kp, .ref ot, .ref su])), (kp, .inl (cI, 256, .inl (mix (ai (zrI fs (2 ^ k)) (2 ^ k) fk fo (2 ^ k)) fk t))), (ot, .inl (cI, 256, .inl fo)), (su, .inl (cI, 256, .inl (ai (zrI fs (2 ^ k)) (2 ^ k) fk fo (2 ^ k))))] H → va_D A [(mo, .inr (3, [.int tv, .int (nI (2 ^ k)), .ref ma, .ref mb, .int (nI rs), .ref lo, .ref hi, .ref kp, .ref ot, .ref su])), (kp, .inl (cI, 256, .inl (mix (ai (zrI fs (2 ^ k)) (2 ^ k) fk fo (2 ^ k)) fk t))), (ot, .inl (cI, 256, .inl fo)), (su, .inl (cI, 256, .inl (ai (zrI fs (2 ^ k)) (2 ^ k) fk fo (2 ^ k))))] → va_S A s.heap H locs → lv_has ls 5 [(2, .int (nI t)), (1, .ref su), (0, .ref mo)] → W p l e (headSpec wsX4_foldKept { frames := 0, cells := 0, slots := 0, locals := 0 }).room s m ([.ref mo] : List Value).toArray below meth c H locs 0 0 (MQ below (q_X4_foldKept dC dI mo ma mb lo hi kp ot su k rs tv cI fk fo fs  A) ([.ref mo] : List Value).toArray s 0 0 A) (F0 m 91 ls []) := by
                intro fuel
                induction fuel with
                | zero => intro t; intros; omega
                | succ fuel ih_91 =>
                  intro t ht hfu H locs ls hP hD hS hl
                  refine lv_iload_n hx hb dX4_foldKept_91 rfl (lv_at hl 0 rfl) ?_
                  refine lv_aload_n hx hb dX4_foldKept_92 rfl (lv_at hl 2 rfl) ?_
                  refine va_get (D := (dC, dI)) (ci := 3) (v := .int (nI (2 ^ k))) (C := RX4) (T := TX4) (N := 10) hx hb hts (by decide +kernel) hown hK hP 0 rfl rfl 1 (by decide) (hts (.fieldLink RX4 7 "ThreePrimesModel" "n" "I") (by decide +kernel)) (fun _ h9 => h9) rfl dX4_foldKept_93 ?_
                  refine lv_icmp_ge (tgt := 114) hx hb dX4_foldKept_96 (by decide) (fun c_3 => ?_) (fun c_3 => ?_)
                  · have c_3 : 2 ^ k ≤ t := (nI_leI (a := 2 ^ k) (b := t) (by omega) (by omega)).mp c_3
                    rw [show mix (ai (zrI fs (2 ^ k)) (2 ^ k) fk fo (2 ^ k)) fk t = mix (ai (zrI fs (2 ^ k)) (2 ^ k) fk fo (2 ^ k)) fk (2 ^ k) from by rw [show t = 2 ^ k by omega]] at hP hD
                    have hP : va_P (dC, dI) vwCl [(mo, .inr (3, [.int tv, .int (nI (2 ^ k)), .ref ma, .ref mb, .int (nI rs), .ref lo, .ref hi, .ref kp, .ref ot, .ref su])), (kp, .inl (cI, 256, .inl (mix (ai (zrI fs (2 ^ k)) (2 ^ k) fk fo (2 ^ k)) fk (2 ^ k)))), (ot, .inl (cI, 256, .inl fo)), (su, .inl (cI, 256, .inl (ai (zrI fs (2 ^ k)) (2 ^ k) fk fo (2 ^ k))))] H := hP
                    have hD : va_D A [(mo, .inr (3, [.int tv, .int (nI (2 ^ k)), .ref ma, .ref mb, .int (nI rs), .ref lo, .ref hi, .ref kp, .ref ot, .ref su])), (kp, .inl (cI, 256, .inl (mix (ai (zrI fs (2 ^ k)) (2 ^ k) fk fo (2 ^ k)) fk (2 ^ k)))), (ot, .inl (cI, 256, .inl fo)), (su, .inl (cI, 256, .inl (ai (zrI fs (2 ^ k)) (2 ^ k) fk fo (2 ^ k))))] := hD
                    have hP9 : va_P (dC, dI) vwCl [(mo, .inr (3, [.int tv, .int (nI (2 ^ k)), .ref ma, .ref mb, .int (nI rs), .ref lo, .ref hi, .ref kp, .ref ot, .ref su])), (kp, .inl (cI, 256, .inl (mix (ai (zrI fs (2 ^ k)) (2 ^ k) fk fo (2 ^ k)) fk (2 ^ k)))), (ot, .inl (cI, 256, .inl fo)), (su, .inl (cI, 256, .inl (ai (zrI fs (2 ^ k)) (2 ^ k) fk fo (2 ^ k))))] H := hP.sub [0, 1, 2, 3] rfl
                    have hD9 : va_D A [(mo, .inr (3, [.int tv, .int (nI (2 ^ k)), .ref ma, .ref mb, .int (nI rs), .ref lo, .ref hi, .ref kp, .ref ot, .ref su])), (kp, .inl (cI, 256, .inl (mix (ai (zrI fs (2 ^ k)) (2 ^ k) fk fo (2 ^ k)) fk (2 ^ k)))), (ot, .inl (cI, 256, .inl fo)), (su, .inl (cI, 256, .inl (ai (zrI fs (2 ^ k)) (2 ^ k) fk fo (2 ^ k))))] := hD.sub [0, 1, 2, 3] (by decide) rfl
                    exact W.vret hx hb hr (fun tq9 ht hW => ⟨⟨(), rfl, trivial, by rw [ht]; exact hP9, hD9⟩, hS.F ht⟩) hS.2.2 dX4_foldKept_114
                  · have c_3 : ¬ (2 ^ k ≤ t) := fun zq9 => c_3 ((nI_leI (a := 2 ^ k) (b := t) (by omega) (by omega)).mpr zq9)
                    refine lv_aload_n hx hb dX4_foldKept_99 rfl (lv_at hl 2 rfl) ?_
                    refine va_get (D := (dC, dI)) (ci := 3) (v := .ref kp) (C := RX4) (T := TX4) (N := 10) hx hb hts (by decide +kernel) hown hK hP 0 rfl rfl 7 (by decide) (hts (.fieldLink RX4 27 "ThreePrimesModel" "kept" "[I") (by decide +kernel)) (fun _ h9 => h9) rfl dX4_foldKept_100 ?_
                    refine lv_iload_n hx hb dX4_foldKept_103 rfl (lv_at hl 0 rfl) ?_
                    refine lv_aload_n hx hb dX4_foldKept_104 rfl (lv_at hl 1 rfl) ?_
                    refine lv_iload_n hx hb dX4_foldKept_105 rfl (lv_at hl 0 rfl) ?_
                    refine va_iald hx hb hK hP 3 0 rfl rfl (vp_in_nI (by omega) (by omega)) dX4_foldKept_106 ?_
                    refine W.eq (g2 := F0 m _ ls [.int ((ai (zrI fs (2 ^ k)) (2 ^ k) fk fo (2 ^ k)) t), .int (nI t), .ref kp]) (by rw [nI_clamp (by omega)]) ?_
                    refine va_iast hx hb hK hP hD hS 1 0 rfl rfl (vp_in_nI (by omega) (by omega)) dX4_foldKept_107 (fun H locs hP hD hS => ?_)
                    rw [nI_clamp (show t < 2 ^ 31 by omega)] at hP hD
                    have hP : va_P (dC, dI) vwCl [(mo, .inr (3, [.int tv, .int (nI (2 ^ k)), .ref ma, .ref mb, .int (nI rs), .ref lo, .ref hi, .ref kp, .ref ot, .ref su])), (kp, .inl (cI, 256, .inl (upd (mix (ai (zrI fs (2 ^ k)) (2 ^ k) fk fo (2 ^ k)) fk t) t ((ai (zrI fs (2 ^ k)) (2 ^ k) fk fo (2 ^ k)) t)))), (ot, .inl (cI, 256, .inl fo)), (su, .inl (cI, 256, .inl (ai (zrI fs (2 ^ k)) (2 ^ k) fk fo (2 ^ k))))] H := hP
                    have hD : va_D A [(mo, .inr (3, [.int tv, .int (nI (2 ^ k)), .ref ma, .ref mb, .int (nI rs), .ref lo, .ref hi, .ref kp, .ref ot, .ref su])), (kp, .inl (cI, 256, .inl (upd (mix (ai (zrI fs (2 ^ k)) (2 ^ k) fk fo (2 ^ k)) fk t) t ((ai (zrI fs (2 ^ k)) (2 ^ k) fk fo (2 ^ k)) t)))), (ot, .inl (cI, 256, .inl fo)), (su, .inl (cI, 256, .inl (ai (zrI fs (2 ^ k)) (2 ^ k) fk fo (2 ^ k))))] := hD
                    rw [show upd (mix (ai (zrI fs (2 ^ k)) (2 ^ k) fk fo (2 ^ k)) fk t) t ((ai (zrI fs (2 ^ k)) (2 ^ k) fk fo (2 ^ k)) t) = mix (ai (zrI fs (2 ^ k)) (2 ^ k) fk fo (2 ^ k)) fk (t + 1) from mix_s] at hP hD
                    have hP : va_P (dC, dI) vwCl [(mo, .inr (3, [.int tv, .int (nI (2 ^ k)), .ref ma, .ref mb, .int (nI rs), .ref lo, .ref hi, .ref kp, .ref ot, .ref su])), (kp, .inl (cI, 256, .inl (mix (ai (zrI fs (2 ^ k)) (2 ^ k) fk fo (2 ^ k)) fk (t + 1)))), (ot, .inl (cI, 256, .inl fo)), (su, .inl (cI, 256, .inl (ai (zrI fs (2 ^ k)) (2 ^ k) fk fo (2 ^ k))))] H := hP
                    have hD : va_D A [(mo, .inr (3, [.int tv, .int (nI (2 ^ k)), .ref ma, .ref mb, .int (nI rs), .ref lo, .ref hi, .ref kp, .ref ot, .ref su])), (kp, .inl (cI, 256, .inl (mix (ai (zrI fs (2 ^ k)) (2 ^ k) fk fo (2 ^ k)) fk (t + 1)))), (ot, .inl (cI, 256, .inl fo)), (su, .inl (cI, 256, .inl (ai (zrI fs (2 ^ k)) (2 ^ k) fk fo (2 ^ k))))] := hD
                    refine lv_iinc (v := nI (t + 1)) (lv' := [(2, .int (nI (t + 1))), (1, .ref su), (0, .ref mo)]) hx hb dX4_foldKept_108 hl (k := 0) rfl (nI_add t 1) (by decide) rfl (fun ls hl => ?_)
                    refine lv_goto (tgt := 91) hx hb dX4_foldKept_111 (by decide) ?_
                    exact ih_91  (t + 1) (by omega) (by omega) _ _ _ (hP.sub [0, 1, 2, 3] rfl) (hD.sub [0, 1, 2, 3] (by decide) rfl) hS (lv_sub hl [0, 1, 2] rfl)
              exact key_91 (2 ^ k + 1) 0 (by omega) (by omega) _ _ _ (hP.sub [0, 1, 2, 3] rfl) (hD.sub [0, 1, 2, 3] (by decide) rfl) hS (lv_sub hl [0, 1, 2] rfl)
            · have c_2 : ¬ (2 ^ k ≤ a) := fun zq9 => c_2 ((nI_leI (a := 2 ^ k) (b := a) (by omega) (by omega)).mpr zq9)
              refine lv_iconst (v := nI 0) hx hb dX4_foldKept_35 (by decide) ?_
              rw [show ai (zrI fs (2 ^ k)) (2 ^ k) fk fo a = aiR (ai (zrI fs (2 ^ k)) (2 ^ k) fk fo a) (2 ^ k) fk fo a 0 from rfl] at hP hD
              have hP : va_P (dC, dI) vwCl [(mo, .inr (3, [.int tv, .int (nI (2 ^ k)), .ref ma, .ref mb, .int (nI rs), .ref lo, .ref hi, .ref kp, .ref ot, .ref su])), (kp, .inl (cI, 256, .inl fk)), (ot, .inl (cI, 256, .inl fo)), (su, .inl (cI, 256, .inl (aiR (ai (zrI fs (2 ^ k)) (2 ^ k) fk fo a) (2 ^ k) fk fo a 0)))] H := hP
              have hD : va_D A [(mo, .inr (3, [.int tv, .int (nI (2 ^ k)), .ref ma, .ref mb, .int (nI rs), .ref lo, .ref hi, .ref kp, .ref ot, .ref su])), (kp, .inl (cI, 256, .inl fk)), (ot, .inl (cI, 256, .inl fo)), (su, .inl (cI, 256, .inl (aiR (ai (zrI fs (2 ^ k)) (2 ^ k) fk fo a) (2 ^ k) fk fo a 0)))] := hD
              refine lv_istore_n (lv' := [(3, .int (nI 0)), (2, .int (nI a)), (1, .ref su), (0, .ref mo)]) hx hb dX4_foldKept_36 rfl hl (by decide) rfl (fun ls hl => ?_)
              have key_37 : ∀ (fuel : Nat) (b : Nat), (b ≤ 2 ^ k) → (2 ^ k - b < fuel) → ∀ (H : Heap) (locs : List Loc) (ls : Array Slot), va_P (dC, dI) vwCl [(mo, .inr (3, [.int tv, .int (nI (2 ^ k)), .ref ma, .ref mb, .int (nI rs), .ref lo, .ref hi, .ref kp, .ref ot, .ref su])), (kp, .inl (cI, 256, .inl fk)), (ot, .inl (cI, 256, .inl fo)), (su, .inl (cI, 256, .inl (aiR (ai (zrI fs (2 ^ k)) (2 ^ k) fk fo a) (2 ^ k) fk fo a b)))] H → va_D A [(mo, .inr (3, [.int tv, .int (nI (2 ^ k)), .ref ma, .ref mb, .int (nI rs), .ref lo, .ref hi, .ref kp, .ref ot, .ref su])), (kp, .inl (cI, 256, .inl fk)), (ot, .inl (cI, 256, .inl fo)), (su, .inl (cI, 256, .inl (aiR (ai (zrI fs (2 ^ k)) (2 ^ k) fk fo a) (2 ^ k) fk fo a b)))] → va_S A s.heap H locs → lv_has ls 5 [(3, .int (nI b)), (2, .int (nI a)), (1, .ref su), (0, .ref mo)] → W p l e (headSpec wsX4_foldKept { frames := 0, cells := 0, slots := 0, locals := 0 }).room s m ([.ref mo] : List Value).toArray below meth c H locs 0 0 (MQ below (q_X4_foldKept dC dI mo ma mb lo hi kp ot su k rs tv cI fk fo fs  A) ([.ref mo] : List Value).toArray s 0 0 A) (F0 m 37 ls []) := by
                intro fuel
                induction fuel with
                | zero => intro b; intros; omega
                | succ fuel ih_37 =>
                  intro b hb9 hfu H locs ls hP hD hS hl
                  refine lv_iload_n hx hb dX4_foldKept_37 rfl (lv_at hl 0 rfl) ?_
                  refine lv_aload_n hx hb dX4_foldKept_38 rfl (lv_at hl 3 rfl) ?_
                  refine va_get (D := (dC, dI)) (ci := 3) (v := .int (nI (2 ^ k))) (C := RX4) (T := TX4) (N := 10) hx hb hts (by decide +kernel) hown hK hP 0 rfl rfl 1 (by decide) (hts (.fieldLink RX4 7 "ThreePrimesModel" "n" "I") (by decide +kernel)) (fun _ h9 => h9) rfl dX4_foldKept_39 ?_
                  refine lv_icmp_ge (tgt := 83) hx hb dX4_foldKept_42 (by decide) (fun c_4 => ?_) (fun c_4 => ?_)
                  · have c_4 : 2 ^ k ≤ b := (nI_leI (a := 2 ^ k) (b := b) (by omega) (by omega)).mp c_4
                    rw [show aiR (ai (zrI fs (2 ^ k)) (2 ^ k) fk fo a) (2 ^ k) fk fo a b = ai (zrI fs (2 ^ k)) (2 ^ k) fk fo (a + 1) from by rw [show b = 2 ^ k by omega]; rfl] at hP hD
                    have hP : va_P (dC, dI) vwCl [(mo, .inr (3, [.int tv, .int (nI (2 ^ k)), .ref ma, .ref mb, .int (nI rs), .ref lo, .ref hi, .ref kp, .ref ot, .ref su])), (kp, .inl (cI, 256, .inl fk)), (ot, .inl (cI, 256, .inl fo)), (su, .inl (cI, 256, .inl (ai (zrI fs (2 ^ k)) (2 ^ k) fk fo (a + 1))))] H := hP
                    have hD : va_D A [(mo, .inr (3, [.int tv, .int (nI (2 ^ k)), .ref ma, .ref mb, .int (nI rs), .ref lo, .ref hi, .ref kp, .ref ot, .ref su])), (kp, .inl (cI, 256, .inl fk)), (ot, .inl (cI, 256, .inl fo)), (su, .inl (cI, 256, .inl (ai (zrI fs (2 ^ k)) (2 ^ k) fk fo (a + 1))))] := hD
                    refine lv_iinc (v := nI (a + 1)) (lv' := [(2, .int (nI (a + 1))), (3, .int (nI b)), (1, .ref su), (0, .ref mo)]) hx hb dX4_foldKept_83 hl (k := 1) rfl (nI_add a 1) (by decide) rfl (fun ls hl => ?_)
                    refine lv_goto (tgt := 27) hx hb dX4_foldKept_86 (by decide) ?_
                    exact ih_27  (a + 1) (by omega) (by omega) _ _ _ (hP.sub [0, 1, 2, 3] rfl) (hD.sub [0, 1, 2, 3] (by decide) rfl) hS (lv_sub hl [0, 2, 3] rfl)
                  · have c_4 : ¬ (2 ^ k ≤ b) := fun zq9 => c_4 ((nI_leI (a := 2 ^ k) (b := b) (by omega) (by omega)).mpr zq9)
                    have hmm := Nat.mod_lt (a + b) (show 0 < 2 ^ k by omega)
                    refine lv_iload_n hx hb dX4_foldKept_45 rfl (lv_at hl 1 rfl) ?_
                    refine lv_iload_n hx hb dX4_foldKept_46 rfl (lv_at hl 0 rfl) ?_
                    refine lv_iadd hx hb dX4_foldKept_47 ?_
                    refine W.eq (congrArg (fun z => F0 m _ ls (.int z :: _)) (show (nI a) + (nI b) = nI (a + b) from nI_add a b)) ?_
                    refine lv_aload_n hx hb dX4_foldKept_48 rfl (lv_at hl 3 rfl) ?_
                    refine va_get (D := (dC, dI)) (ci := 3) (v := .int (nI (2 ^ k))) (C := RX4) (T := TX4) (N := 10) hx hb hts (by decide +kernel) hown hK hP 0 rfl rfl 1 (by decide) (hts (.fieldLink RX4 7 "ThreePrimesModel" "n" "I") (by decide +kernel)) (fun _ h9 => h9) rfl dX4_foldKept_49 ?_
                    refine lv_irem hx hb dX4_foldKept_52 (nI_ne0 (by omega) (by omega)) ?_
                    refine W.eq (congrArg (fun z => F0 m _ ls (.int z :: _)) (show nI (a + b) - nI (a + b) / nI (2 ^ k) * nI (2 ^ k) = nI ((a + b) % (2 ^ k)) from pk_rem (by omega) (by omega) (by omega))) ?_
                    refine lv_istore (lv' := [(4, .int (nI ((a + b) % (2 ^ k)))), (3, .int (nI b)), (2, .int (nI a)), (1, .ref su), (0, .ref mo)]) hx hb dX4_foldKept_53 hl (by decide) rfl (fun ls hl => ?_)
                    refine lv_aload_n hx hb dX4_foldKept_55 rfl (lv_at hl 3 rfl) ?_
                    refine lv_iload hx hb dX4_foldKept_56 (lv_at hl 0 rfl) ?_
                    refine lv_aload_n hx hb dX4_foldKept_58 rfl (lv_at hl 3 rfl) ?_
                    refine lv_iload hx hb dX4_foldKept_59 (lv_at hl 0 rfl) ?_
                    refine va_iald hx hb hK hP 3 0 rfl rfl (vp_in_nI (by omega) (by omega)) dX4_foldKept_61 ?_
                    refine W.eq (g2 := F0 m _ ls [.int ((aiR (ai (zrI fs (2 ^ k)) (2 ^ k) fk fo a) (2 ^ k) fk fo a b) ((a + b) % (2 ^ k))), .int (nI ((a + b) % (2 ^ k))), .ref su]) (by rw [nI_clamp (by omega)]) ?_
                    refine lv_aload_n hx hb dX4_foldKept_62 rfl (lv_at hl 4 rfl) ?_
                    refine va_get (D := (dC, dI)) (ci := 3) (v := .ref kp) (C := RX4) (T := TX4) (N := 10) hx hb hts (by decide +kernel) hown hK hP 0 rfl rfl 7 (by decide) (hts (.fieldLink RX4 27 "ThreePrimesModel" "kept" "[I") (by decide +kernel)) (fun _ h9 => h9) rfl dX4_foldKept_63 ?_
                    refine lv_iload_n hx hb dX4_foldKept_66 rfl (lv_at hl 2 rfl) ?_
                    refine va_iald hx hb hK hP 1 0 rfl rfl (vp_in_nI (by omega) (by omega)) dX4_foldKept_67 ?_
                    refine W.eq (g2 := F0 m _ ls [.int (fk a), .int ((aiR (ai (zrI fs (2 ^ k)) (2 ^ k) fk fo a) (2 ^ k) fk fo a b) ((a + b) % (2 ^ k))), .int (nI ((a + b) % (2 ^ k))), .ref su]) (by rw [nI_clamp (by omega)]) ?_
                    refine lv_aload_n hx hb dX4_foldKept_68 rfl (lv_at hl 4 rfl) ?_
                    refine va_get (D := (dC, dI)) (ci := 3) (v := .ref ot) (C := RX4) (T := TX4) (N := 10) hx hb hts (by decide +kernel) hown hK hP 0 rfl rfl 8 (by decide) (hts (.fieldLink RX4 30 "ThreePrimesModel" "other" "[I") (by decide +kernel)) (fun _ h9 => h9) rfl dX4_foldKept_69 ?_
                    refine lv_iload_n hx hb dX4_foldKept_72 rfl (lv_at hl 1 rfl) ?_
                    refine va_iald hx hb hK hP 2 0 rfl rfl (vp_in_nI (by omega) (by omega)) dX4_foldKept_73 ?_
                    refine W.eq (g2 := F0 m _ ls [.int (fo b), .int (fk a), .int ((aiR (ai (zrI fs (2 ^ k)) (2 ^ k) fk fo a) (2 ^ k) fk fo a b) ((a + b) % (2 ^ k))), .int (nI ((a + b) % (2 ^ k))), .ref su]) (by rw [nI_clamp (by omega)]) ?_
                    refine lv_imul hx hb dX4_foldKept_74 ?_
                    refine lv_iadd hx hb dX4_foldKept_75 ?_
                    refine va_iast hx hb hK hP hD hS 3 0 rfl rfl (vp_in_nI (by omega) (by omega)) dX4_foldKept_76 (fun H locs hP hD hS => ?_)
                    rw [nI_clamp (show (a + b) % (2 ^ k) < 2 ^ 31 by omega)] at hP hD
                    have hP : va_P (dC, dI) vwCl [(mo, .inr (3, [.int tv, .int (nI (2 ^ k)), .ref ma, .ref mb, .int (nI rs), .ref lo, .ref hi, .ref kp, .ref ot, .ref su])), (kp, .inl (cI, 256, .inl fk)), (ot, .inl (cI, 256, .inl fo)), (su, .inl (cI, 256, .inl (upd (aiR (ai (zrI fs (2 ^ k)) (2 ^ k) fk fo a) (2 ^ k) fk fo a b) ((a + b) % (2 ^ k)) (((aiR (ai (zrI fs (2 ^ k)) (2 ^ k) fk fo a) (2 ^ k) fk fo a b) ((a + b) % (2 ^ k))) + ((fk a) * (fo b))))))] H := hP
                    have hD : va_D A [(mo, .inr (3, [.int tv, .int (nI (2 ^ k)), .ref ma, .ref mb, .int (nI rs), .ref lo, .ref hi, .ref kp, .ref ot, .ref su])), (kp, .inl (cI, 256, .inl fk)), (ot, .inl (cI, 256, .inl fo)), (su, .inl (cI, 256, .inl (upd (aiR (ai (zrI fs (2 ^ k)) (2 ^ k) fk fo a) (2 ^ k) fk fo a b) ((a + b) % (2 ^ k)) (((aiR (ai (zrI fs (2 ^ k)) (2 ^ k) fk fo a) (2 ^ k) fk fo a b) ((a + b) % (2 ^ k))) + ((fk a) * (fo b))))))] := hD
                    rw [show upd (aiR (ai (zrI fs (2 ^ k)) (2 ^ k) fk fo a) (2 ^ k) fk fo a b) ((a + b) % (2 ^ k)) (((aiR (ai (zrI fs (2 ^ k)) (2 ^ k) fk fo a) (2 ^ k) fk fo a b) ((a + b) % (2 ^ k))) + ((fk a) * (fo b))) = aiR (ai (zrI fs (2 ^ k)) (2 ^ k) fk fo a) (2 ^ k) fk fo a (b + 1) from rfl] at hP hD
                    have hP : va_P (dC, dI) vwCl [(mo, .inr (3, [.int tv, .int (nI (2 ^ k)), .ref ma, .ref mb, .int (nI rs), .ref lo, .ref hi, .ref kp, .ref ot, .ref su])), (kp, .inl (cI, 256, .inl fk)), (ot, .inl (cI, 256, .inl fo)), (su, .inl (cI, 256, .inl (aiR (ai (zrI fs (2 ^ k)) (2 ^ k) fk fo a) (2 ^ k) fk fo a (b + 1))))] H := hP
                    have hD : va_D A [(mo, .inr (3, [.int tv, .int (nI (2 ^ k)), .ref ma, .ref mb, .int (nI rs), .ref lo, .ref hi, .ref kp, .ref ot, .ref su])), (kp, .inl (cI, 256, .inl fk)), (ot, .inl (cI, 256, .inl fo)), (su, .inl (cI, 256, .inl (aiR (ai (zrI fs (2 ^ k)) (2 ^ k) fk fo a) (2 ^ k) fk fo a (b + 1))))] := hD
                    refine lv_iinc (v := nI (b + 1)) (lv' := [(3, .int (nI (b + 1))), (4, .int (nI ((a + b) % (2 ^ k)))), (2, .int (nI a)), (1, .ref su), (0, .ref mo)]) hx hb dX4_foldKept_77 hl (k := 1) rfl (nI_add b 1) (by decide) rfl (fun ls hl => ?_)
                    refine lv_goto (tgt := 37) hx hb dX4_foldKept_80 (by decide) ?_
                    exact ih_37  (b + 1) (by omega) (by omega) _ _ _ (hP.sub [0, 1, 2, 3] rfl) (hD.sub [0, 1, 2, 3] (by decide) rfl) hS (lv_sub hl [0, 2, 3, 4] rfl)
              exact key_37 (2 ^ k + 1) 0 (by omega) (by omega) _ _ _ (hP.sub [0, 1, 2, 3] rfl) (hD.sub [0, 1, 2, 3] (by decide) rfl) hS (lv_sub hl [0, 1, 2, 3] rfl)
        exact key_27 (2 ^ k + 1) 0 (by omega) (by omega) _ _ _ (hP.sub [0, 1, 2, 3] rfl) (hD.sub [0, 1, 2, 3] (by decide) rfl) hS (lv_sub hl [0, 1, 2] rfl)
      · have c_1 : ¬ (2 ^ k ≤ t) := fun zq9 => c_1 ((nI_leI (a := 2 ^ k) (b := t) (by omega) (by omega)).mpr zq9)
        refine lv_aload_n hx hb dX4_foldKept_15 rfl (lv_at hl 1 rfl) ?_
        refine lv_iload_n hx hb dX4_foldKept_16 rfl (lv_at hl 0 rfl) ?_
        refine lv_iconst (v := nI 0) hx hb dX4_foldKept_17 (by decide) ?_
        refine va_iast hx hb hK hP hD hS 3 0 rfl rfl (vp_in_nI (by omega) (by omega)) dX4_foldKept_18 (fun H locs hP hD hS => ?_)
        rw [nI_clamp (show t < 2 ^ 31 by omega)] at hP hD
        have hP : va_P (dC, dI) vwCl [(mo, .inr (3, [.int tv, .int (nI (2 ^ k)), .ref ma, .ref mb, .int (nI rs), .ref lo, .ref hi, .ref kp, .ref ot, .ref su])), (kp, .inl (cI, 256, .inl fk)), (ot, .inl (cI, 256, .inl fo)), (su, .inl (cI, 256, .inl (upd (zrI fs t) t (nI 0))))] H := hP
        have hD : va_D A [(mo, .inr (3, [.int tv, .int (nI (2 ^ k)), .ref ma, .ref mb, .int (nI rs), .ref lo, .ref hi, .ref kp, .ref ot, .ref su])), (kp, .inl (cI, 256, .inl fk)), (ot, .inl (cI, 256, .inl fo)), (su, .inl (cI, 256, .inl (upd (zrI fs t) t (nI 0))))] := hD
        rw [show upd (zrI fs t) t (nI 0) = zrI fs (t + 1) from zrI_s] at hP hD
        have hP : va_P (dC, dI) vwCl [(mo, .inr (3, [.int tv, .int (nI (2 ^ k)), .ref ma, .ref mb, .int (nI rs), .ref lo, .ref hi, .ref kp, .ref ot, .ref su])), (kp, .inl (cI, 256, .inl fk)), (ot, .inl (cI, 256, .inl fo)), (su, .inl (cI, 256, .inl (zrI fs (t + 1))))] H := hP
        have hD : va_D A [(mo, .inr (3, [.int tv, .int (nI (2 ^ k)), .ref ma, .ref mb, .int (nI rs), .ref lo, .ref hi, .ref kp, .ref ot, .ref su])), (kp, .inl (cI, 256, .inl fk)), (ot, .inl (cI, 256, .inl fo)), (su, .inl (cI, 256, .inl (zrI fs (t + 1))))] := hD
        refine lv_iinc (v := nI (t + 1)) (lv' := [(2, .int (nI (t + 1))), (1, .ref su), (0, .ref mo)]) hx hb dX4_foldKept_19 hl (k := 0) rfl (nI_add t 1) (by decide) rfl (fun ls hl => ?_)
        refine lv_goto (tgt := 7) hx hb dX4_foldKept_22 (by decide) ?_
        exact ih_7  (t + 1) (by omega) (by omega) _ _ _ (hP.sub [0, 1, 2, 3] rfl) (hD.sub [0, 1, 2, 3] (by decide) rfl) hS (lv_sub hl [0, 1, 2] rfl)
  exact key_7 (2 ^ k + 1) 0 (by omega) (by omega) _ _ _ (hP.sub [0, 1, 2, 3] rfl) (hD.sub [0, 1, 2, 3] (by decide) rfl) hS (lv_sub hl [0, 1, 2] rfl)
