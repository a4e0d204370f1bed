/-! powers modulo the three primes -/
def pm (b x P : Nat) : Nat → Nat
  | 0 => 1 % P
  | s + 1 => if x % 2 = 1 then pm (b * b % P) (x / 2) P s * b % P else pm (b * b % P) (x / 2) P s
theorem pm_eq : ∀ (s b x P : Nat), x < 2 ^ s → pm b x P s = b ^ x % P
  | 0, b, x, P, h => by
    have : x = 0 := by rw [Nat.pow_zero] at h; omega
    subst this
    rfl
  | s + 1, b, x, P, h => by
    have ih := pm_eq s (b * b % P) (x / 2) P (by rw [Nat.pow_succ] at h; omega)
    have e : (b * b % P) ^ (x / 2) % P = (b * b) ^ (x / 2) % P := (Nat.pow_mod (b * b) (x / 2) P).symm
    have e2 : b * b = b ^ 2 := by rw [Nat.pow_succ, Nat.pow_succ, Nat.pow_zero, Nat.one_mul]
    show (if x % 2 = 1 then pm (b * b % P) (x / 2) P s * b % P else pm (b * b % P) (x / 2) P s) = _
    rw [ih, e, e2, ← Nat.pow_mul]
    split
    · rename_i hx
      rw [Nat.mul_mod, Nat.mod_mod, ← Nat.mul_mod, ← Nat.pow_succ]
      congr 2
      omega
    · congr 2
      omega
theorem pm_cg {b x P r : Nat} {R : Int} (h : pm b x P 30 = r) (hx : x < 2 ^ 30) (hr : cg P (r : Int) R) : cg P ((b : Int) ^ x) R := by
  rw [pm_eq 30 b x P hx] at h
  refine cg.trans ?_ hr
  unfold cg
  rw [← h, Int.natCast_emod, Int.natCast_pow, Int.emod_emod]
theorem num0 : cg 998244353 (3 ^ 499122176) (-1) ∧ cg 998244353 (2 ^ 998244352) 1 := ⟨pm_cg (b := 3) (P := 998244353) (r := 998244352) (by decide +kernel) (by decide) (by unfold cg; decide), pm_cg (b := 2) (P := 998244353) (r := 1) (by decide +kernel) (by decide) (by unfold cg; decide)⟩
theorem num1 : cg 167772161 (3 ^ 83886080) (-1) ∧ cg 167772161 (2 ^ 167772160) 1 := ⟨pm_cg (b := 3) (P := 167772161) (r := 167772160) (by decide +kernel) (by decide) (by unfold cg; decide), pm_cg (b := 2) (P := 167772161) (r := 1) (by decide +kernel) (by decide) (by unfold cg; decide)⟩
theorem num2 : cg 469762049 (3 ^ 234881024) (-1) ∧ cg 469762049 (2 ^ 469762048) 1 := ⟨pm_cg (b := 3) (P := 469762049) (r := 469762048) (by decide +kernel) (by decide) (by unfold cg; decide), pm_cg (b := 2) (P := 469762049) (r := 1) (by decide +kernel) (by decide) (by unfold cg; decide)⟩
theorem frm_facts {P k : Nat} (hP2 : 2 < P) (hd : P - 1 = 2 ^ k * ((P - 1) / 2 ^ k)) (hh : (P - 1) / 2 ^ k * (2 ^ k / 2) = (P - 1) / 2) (he : (P - 1) / 2 * 2 = P - 1) (h3 : cg P (3 ^ ((P - 1) / 2)) (-1)) (h2 : cg P (2 ^ (P - 1)) 1) :
    cg P (frW k P ^ (2 ^ k / 2)) (-1) ∧ cg P (frW k P * (frW k P ^ (P - 2) % (P : Int))) 1 ∧ cg P (2 ^ k * ((2 ^ k : Int) ^ (P - 2) % (P : Int))) 1 := by
  have hf : cg P (frW k P) (3 ^ ((P - 1) / 2 ^ k)) := cg.md _ _
  have h31 : cg P (3 ^ (P - 1)) 1 := by
    rw [← he, Int.pow_mul]
    refine (h3.pow 2).trans (cg.of ?_)
    rfl
  refine ⟨?_, ?_, ?_⟩
  · refine (hf.pow _).trans ?_
    rw [← Int.pow_mul, hh]
    exact h3
  · refine (cg.mul cg.rf (cg.md _ _)).trans ?_
    rw [Int.mul_comm, ← Int.pow_succ, show (P - 2).succ = P - 1 by omega]
    refine (hf.pow _).trans ?_
    rw [← Int.pow_mul, Nat.mul_comm, Int.pow_mul]
    exact (h31.pow _).trans (cg.of Int.one_pow)
  · refine (cg.mul cg.rf (cg.md _ _)).trans ?_
    rw [Int.mul_comm, ← Int.pow_succ, show (P - 2).succ = P - 1 by omega, ← Int.pow_mul, Nat.mul_comm, Int.pow_mul]
    exact (h2.pow _).trans (cg.of Int.one_pow)
def isPr (P : Nat) : Prop := P = 998244353 ∨ P = 167772161 ∨ P = 469762049
theorem isPr_q {q : Nat} (_ : q < 3) : isPr (prN q) := by
  unfold prN isPr
  split <;> simp
theorem pr_facts {P k : Nat} (hP : isPr P) (hk1 : 1 ≤ k) (hk : k ≤ 9) : cg P (frW k P ^ (2 ^ k / 2)) (-1) ∧ cg P (frW k P * (frW k P ^ (P - 2) % (P : Int))) 1 ∧ cg P (2 ^ k * ((2 ^ k : Int) ^ (P - 2) % (P : Int))) 1 := by
  have key : ∀ k : Nat, k < 10 → 1 ≤ k → (998244353 - 1 = 2 ^ k * ((998244353 - 1) / 2 ^ k) ∧ (998244353 - 1) / 2 ^ k * (2 ^ k / 2) = (998244353 - 1) / 2) ∧ (167772161 - 1 = 2 ^ k * ((167772161 - 1) / 2 ^ k) ∧ (167772161 - 1) / 2 ^ k * (2 ^ k / 2) = (167772161 - 1) / 2) ∧ (469762049 - 1 = 2 ^ k * ((469762049 - 1) / 2 ^ k) ∧ (469762049 - 1) / 2 ^ k * (2 ^ k / 2) = (469762049 - 1) / 2) := by decide +kernel
  obtain ⟨k0, k1, k2⟩ := key k (by omega) hk1
  rcases hP with rfl | rfl | rfl
  · exact frm_facts (by decide) k0.1 k0.2 (by decide) num0.1 num0.2
  · exact frm_facts (by decide) k1.1 k1.2 (by decide) num1.1 num1.2
  · exact frm_facts (by decide) k2.1 k2.2 (by decide) num2.1 num2.2
theorem frm_eq {F1 F2 G : Nat → Int} {k P : Nat} (hP : isPr P) (hk1 : 1 ≤ k) (hk : k ≤ 9) : ∀ j, j < 2 ^ k → frm F1 F2 G k P j = bc F1 F2 (2 ^ k) j % (P : Int) := by
  obtain ⟨h1, h2, h3⟩ := pr_facts hP hk1 hk
  exact frm_cg hk h1 h2 h3 (by rcases hP with rfl | rfl | rfl <;> decide)
/-- the document's sum S(i) -/
def SK (kd n : Nat) (f g : Nat → Int32) (i : Nat) : Int := sm2 (fun a b => if atK kd n a b = i then vK kd n f g a b else 0) n
theorem ldR_lo {f : Nat → Int32} {F : Nat → Int} {n : Nat} {P : Int} {j : Nat} (h : j < n) : ldR f F n P n j = (f j).toInt % P := if_pos h
theorem ldR_hi {f : Nat → Int32} {F : Nat → Int} {n : Nat} {P : Int} {j : Nat} (h : j < n) : ldR f F n P n (n + j) = 0 := by
  unfold ldR
  rw [if_neg (by omega), if_pos (by omega)]
theorem at0 {n a b : Nat} (ha : a < n) (hb : b < n) : atK 0 n a b = (a + b) % n := by
  unfold atK
  by_cases h : n ≤ a + b
  · rw [if_pos ⟨by omega, h⟩, Nat.mod_eq_sub_mod h, Nat.mod_eq_of_lt (by omega)]
  · rw [if_neg (by omega), Nat.mod_eq_of_lt (by omega)]
theorem v02 {kd n a b : Nat} {f g : Nat → Int32} (h : kd ≠ 1) : vK kd n f g a b = (f a).toInt * (g b).toInt := by
  unfold vK
  rw [if_neg (fun q => h q.1)]
theorem fd0 {f g : Nat → Int32} {x y w : Nat → Int} {k P : Nat} (hP : isPr P) (hk1 : 1 ≤ k) (hk : k ≤ 8) {i : Nat} (hi : i < 2 ^ k) : fdq 0 f g x y w k P i = SK 0 (2 ^ k) f g i % (P : Int) := by
  show frm _ _ _ k P i = _
  rw [frm_eq hP hk1 (by omega) i hi]
  show cg P _ _
  unfold bc SK
  rw [Nat.mod_eq_of_lt hi]
  refine sm2_cg fun u hu v hv => ?_
  rw [at0 hu hv, v02 (by decide)]
  split
  · rw [show i - i + u = u by omega, show i - i + v = v by omega, ldR_lo hu, ldR_lo hv]
    exact (cg.md _ _).mul (cg.md _ _)
  · exact cg.rf
/-- twice as many places: the straight sums -/
theorem bc2 {f g : Nat → Int32} {x y : Nat → Int} {n P : Nat} {i : Nat} (hi : i < 2 * n) : cg P (bc (ldR f x n P n) (ldR g y n P n) (2 * n) i) (sm2 (fun a b => if a + b = i then (f a).toInt * (g b).toInt else 0) n) := by
  unfold bc
  rw [Nat.mod_eq_of_lt hi, sm2_two]
  refine sm2_cg fun u hu v hv => ?_
  rw [show i - i + u = u by omega, show i - i + v = v by omega, show i - i + (n + u) = n + u by omega, show i - i + (n + v) = n + v by omega, ldR_lo hu, ldR_lo hv, ldR_hi hu, ldR_hi hv, Nat.mod_eq_of_lt (show u + v < 2 * n by omega), Int.mul_zero, Int.zero_mul, Int.zero_mul, ite_self, ite_self, ite_self, Int.add_zero, Int.add_zero, Int.add_zero]
  split
  · exact (cg.md _ _).mul (cg.md _ _)
  · exact cg.rf
theorem fd2 {f g : Nat → Int32} {x y w : Nat → Int} {k P : Nat} (hP : isPr P) (hk : k ≤ 8) {i : Nat} (hi : i < 2 * 2 ^ k - 1) : fdq 2 f g x y w k P i = SK 2 (2 ^ k) f g i % (P : Int) := by
  have hk2 : 2 ^ (k + 1) = 2 * 2 ^ k := by rw [Nat.pow_succ]; omega
  show frm _ _ _ (k + 1) P i = _
  rw [frm_eq hP (by omega) (by omega) i (by omega), hk2]
  refine Eq.trans (bc2 (by omega)) ?_
  show cg P _ _
  unfold SK
  refine sm2_cg fun u hu v hv => cg.of ?_
  rw [v02 (by decide), show atK 2 (2 ^ k) u v = u + v from if_neg (by omega)]
theorem fd1 {f g : Nat → Int32} {x y w : Nat → Int} {k P : Nat} (hP : isPr P) (hk : k ≤ 8) {i : Nat} (hi : i < 2 ^ k) : fdq 1 f g x y w k P i = SK 1 (2 ^ k) f g i % (P : Int) := by
  have hk2 : 2 ^ (k + 1) = 2 * 2 ^ k := by rw [Nat.pow_succ]; omega
  show tkU (frm _ _ _ (k + 1) P) _ P _ i = _
  unfold tkU
  rw [if_pos hi, frm_eq hP (by omega) (by omega) i (by omega), frm_eq hP (by omega) (by omega) (i + 2 ^ k) (by omega), hk2]
  show cg P _ _
  refine (((cg.md _ _).trans (bc2 (by omega))).sub ((cg.md _ _).trans (bc2 (by omega)))).trans ?_
  unfold SK
  rw [sm2_sub]
  refine sm2_cg fun u hu v hv => cg.of ?_
  unfold atK vK
  by_cases h : 2 ^ k ≤ u + v
  · rw [if_pos (show (1 < 2 ∧ 2 ^ k ≤ u + v) by omega), if_pos (show (1 = 1 ∧ 2 ^ k ≤ u + v) by omega)]
    rw [if_neg (show ¬ u + v = i by omega)]
    by_cases h2 : u + v - 2 ^ k = i
    · rw [if_pos h2, if_pos (by omega)]
      omega
    · rw [if_neg h2, if_neg (by omega)]
      omega
  · rw [if_neg (show ¬ (1 < 2 ∧ 2 ^ k ≤ u + v) by omega), if_neg (show ¬ (1 = 1 ∧ 2 ^ k ≤ u + v) by omega), if_neg (show ¬ u + v = i + 2 ^ k by omega)]
    omega
theorem fd_all {kd : Nat} (hkd : kd < 3) {f g : Nat → Int32} {x y w : Nat → Int} {k P : Nat} (hP : isPr P) (hk1 : 1 ≤ k) (hk : k ≤ 8) {i : Nat} (hi : i < cntK kd k) : fdq kd f g x y w k P i = SK kd (2 ^ k) f g i % (P : Int) := by
  match kd, hkd, hi with
  | 0, _, hi => exact fd0 hP hk1 hk hi
  | 1, _, hi => exact fd1 hP hk hi
  | 2, _, hi => exact fd2 hP hk hi
/-! bounds -/
theorem sm_b {f : Nat → Int} {B : Int} : ∀ {n : Nat}, (∀ i, i < n → -B ≤ f i ∧ f i ≤ B) → -(n * B) ≤ sm f n ∧ sm f n ≤ n * B
  | 0, _ => by
    show -((0 : Int) * B) ≤ 0 ∧ 0 ≤ (0 : Int) * B
    omega
  | n + 1, h => by
    have h1 := sm_b (n := n) (fun i hi => h i (by omega))
    have h2 := h n (by omega)
    have h3 : ((n + 1 : Nat) : Int) * B = n * B + B := by rw [Int.natCast_add, Int.add_mul]; simp
    show -(((n + 1 : Nat) : Int) * B) ≤ sm f n + f n ∧ sm f n + f n ≤ ((n + 1 : Nat) : Int) * B
    rw [h3]
    omega
theorem SK_b {kd n : Nat} {f g : Nat → Int32} {i : Nat} (hn : n ≤ 256) : -2 ^ 78 ≤ SK kd n f g i ∧ SK kd n f g i ≤ 2 ^ 78 := by
  have hv : ∀ a b, -2 ^ 62 ≤ (if atK kd n a b = i then vK kd n f g a b else 0) ∧ (if atK kd n a b = i then vK kd n f g a b else 0) ≤ 2 ^ 62 := by
    intro a b
    have h := mul_i32 (f a) (g b)
    split
    · unfold vK
      split <;> omega
    · omega
  have h1 : ∀ a, a < n → -(n * 2 ^ 62) ≤ sm (fun b => if atK kd n a b = i then vK kd n f g a b else 0) n ∧ sm (fun b => if atK kd n a b = i then vK kd n f g a b else 0) n ≤ n * 2 ^ 62 := fun a _ => sm_b (fun b _ => hv a b)
  have h2 := sm_b h1
  have hn2 : (0 : Int) ≤ n ∧ (n : Int) ≤ 256 := by omega
  have h3 : (n : Int) * (n * 2 ^ 62) ≤ 256 * (256 * 2 ^ 62) := Int.mul_le_mul hn2.2 (by omega) (by omega) (by omega)
  have h4 : SK kd n f g i = sm (fun a => sm (fun b => if atK kd n a b = i then vK kd n f g a b else 0) n) n := rfl
  rw [h4]
  omega
/-! the number out of its three remainders -/
theorem crt {S : Int} (h1 : -2 ^ 78 ≤ S) (h2 : S ≤ 2 ^ 78) : lowZ (S % 998244353) (S % 167772161) (S % 469762049) = S ∧ highZ (S % 998244353) (S % 167772161) (S % 469762049) = S / 18446744073709551616 := by
  have hm : mft (S % 998244353) (S % 167772161) = S % 167477612308856833 := by
    unfold mft
    omega
  have hz := emod_rng S (show (0 : Int) < 167477612308856833 by omega)
  have ht0 : ((S % 469762049 - S % 167477612308856833).tmod 469762049 * 115990628) % 469762049 = (S / 167477612308856833) % 469762049 := by
    have e1 : ∀ y : Int, cg 469762049 (y.tmod 469762049) y := fun y => by
      unfold cg
      rw [Int.tmod_def, Int.sub_emod, Int.mul_emod_right, Int.sub_zero, Int.emod_emod]
    refine Eq.trans ((e1 _).mul (cg.rf (a := 115990628))) ?_
    omega
  have ht : tft (S % 469762049) (S % 167477612308856833) = S / 167477612308856833 := by
    unfold tft
    rw [ht0]
    split <;> omega
  unfold lowZ highZ
  rw [hm, ht]
  constructor
  · omega
  · omega
/-! the reference's sums -/
theorem accR_eq {F : Nat → Int} {kd n : Nat} {f g : Nat → Int32} {a : Nat} : ∀ (b i : Nat), accR F kd n f g a b i = F i + sm (fun v => if atK kd n a v = i then vK kd n f g a v else 0) b
  | 0, i => by show F i = F i + 0; omega
  | b + 1, i => by
    show upI (accR F kd n f g a b) (atK kd n a b) (accR F kd n f g a b (atK kd n a b) + vK kd n f g a b) i = F i + (sm (fun v => if atK kd n a v = i then vK kd n f g a v else 0) b + (if atK kd n a b = i then vK kd n f g a b else 0))
    unfold upI
    by_cases h : i = atK kd n a b
    · rw [if_pos h, if_pos h.symm, accR_eq b (atK kd n a b), ← h]
      omega
    · rw [if_neg h, if_neg (fun q => h q.symm), accR_eq b i]
      omega
theorem acc_eq {F : Nat → Int} {kd n : Nat} {f g : Nat → Int32} : ∀ (a i : Nat), acc F kd n f g a i = F i + sm (fun u => sm (fun v => if atK kd n u v = i then vK kd n f g u v else 0) n) a
  | 0, i => by show F i = F i + 0; omega
  | a + 1, i => by
    show accR (acc F kd n f g a) kd n f g a n i = _
    rw [accR_eq, acc_eq a i]
    show _ = F i + (sm _ a + sm _ n)
    omega
theorem acc_SK {F : Nat → Int} {kd n c : Nat} {f g : Nat → Int32} {i : Nat} (hi : i < c) : acc (zrL F c) kd n f g n i = SK kd n f g i := by
  have h4 : SK kd n f g i = sm (fun a => sm (fun b => if atK kd n a b = i then vK kd n f g a b else 0) n) n := rfl
  rw [acc_eq, h4]
  unfold zrL
  rw [if_pos hi]
  omega
theorem aiR_eq {F : Nat → Int} {n : Nat} {f g : Nat → Int32} {a : Nat} {X : Nat → Int32} (hX : ∀ i, i < n → X i = iI (F i)) (hn : 0 < n) (ha : a < n) : ∀ (b : Nat), b ≤ n → ∀ i, i < n → aiR X n f g a b i = iI (accR F 0 n f g a b i)
  | 0, _, i, hi => hX i hi
  | b + 1, hb, i, hi => by
    have ih := aiR_eq (f := f) (g := g) hX hn ha b (by omega)
    show upd (aiR X n f g a b) ((a + b) % n) (aiR X n f g a b ((a + b) % n) + f a * g b) i = iI (upI (accR F 0 n f g a b) (atK 0 n a b) (accR F 0 n f g a b (atK 0 n a b) + vK 0 n f g a b) i)
    rw [upd_eq, at0 ha (show b < n by omega), v02 (by decide)]
    unfold upI
    by_cases h : i = (a + b) % n
    · rw [if_pos h, if_pos h, ih _ (Nat.mod_lt _ hn), ← iI_add, ← iI_mul, iI_of, iI_of]
    · rw [if_neg h, if_neg h, ih i hi]
theorem ai_eq {n : Nat} {f g : Nat → Int32} (hn : 0 < n) : ∀ (a : Nat), a ≤ n → ∀ i, i < n → ai (fun _ => 0) n f g a i = iI (acc (zrL (fun _ => 0) n) 0 n f g a i)
  | 0, _, i, hi => by
    show (0 : Int32) = iI (zrL (fun _ => 0) n i)
    unfold zrL
    rw [if_pos hi]
    rfl
  | a + 1, ha, i, hi => aiR_eq (ai_eq hn a (by omega)) hn (by omega) n (Nat.le_refl n) i hi
theorem c32_SK {n : Nat} {f g : Nat → Int32} (hn : 0 < n) {i : Nat} (hi : i < n) : c32 f g n i = iI (SK 0 n f g i) := by
  unfold c32
  rw [ai_eq hn n (Nat.le_refl n) i hi, acc_SK hi]
theorem SK_congr {kd n : Nat} {f f' g g' : Nat → Int32} (hf : ∀ i, i < n → f i = f' i) (hg : ∀ i, i < n → g i = g' i) (i : Nat) : SK kd n f g i = SK kd n f' g' i := by
  unfold SK
  refine sm2_congr fun a ha b hb => ?_
  unfold vK
  rw [hf a ha, hg b hb]
/-! Horner -/
theorem psm_cons (f : Nat → Int32) (x : Int) : ∀ m : Nat, psm f x (m + 1) = (f 0).toInt + x * psm (fun i => f (i + 1)) x m
  | 0 => by
    show 0 + (f 0).toInt * x ^ 0 = (f 0).toInt + x * 0
    rw [Int.pow_zero]
    omega
  | m + 1 => by
    show psm f x (m + 1) + (f (m + 1)).toInt * x ^ (m + 1) = (f 0).toInt + x * (psm (fun i => f (i + 1)) x m + (f (m + 1)).toInt * x ^ m)
    rw [psm_cons f x m, Int.mul_add, Int.pow_succ, Int.mul_left_comm x, Int.mul_comm (x ^ m) x]
    omega
theorem hz_psm (f : Nat → Int32) (x : Int) : ∀ (m j : Nat), hz f x j m = psm (fun i => f (i + j)) x m
  | 0, _ => rfl
  | m + 1, j => by
    show (f j).toInt + x * hz f x (j + 1) m = _
    rw [psm_cons, hz_psm f x m (j + 1)]
    show _ = (f (0 + j)).toInt + x * psm (fun i => f (i + 1 + j)) x m
    rw [Nat.zero_add]
    congr 3
    funext i
    congr 1
    omega
theorem psm_congr {f g : Nat → Int32} {x : Int} : ∀ {n : Nat}, (∀ i, i < n → f i = g i) → psm f x n = psm g x n
  | 0, _ => rfl
  | n + 1, h => by
    show psm f x n + (f n).toInt * x ^ n = psm g x n + (g n).toInt * x ^ n
    rw [psm_congr (fun i hi => h i (by omega)), h n (by omega)]
theorem hz_eq {f g : Nat → Int32} {x : Int} {n : Nat} (h : ∀ i, i < n → f i = g i) : hz f x 0 n = psm g x n := by
  rw [hz_psm]
  exact psm_congr h
theorem ex_nI {j k : Nat} (hk : k ≤ 8) (hj : j < 2 ^ k) : ex32 (nI j) k = j := by
  have h1 := pw8 hk
  have h3 : ((2 ^ k : Nat) : Int) = 2 ^ k := Int.natCast_pow 2 k
  unfold ex32
  rw [nI_toInt (by omega), ← h3, ← Int.natCast_emod, Nat.mod_eq_of_lt hj]
  rfl
theorem ex_neg {j k : Nat} (hk : k ≤ 8) (hj : j < 2 ^ k) : ex32 (-nI j) k = (2 ^ k - j) % 2 ^ k := by
  have h1 := pw8 hk
  have h3 : ((2 ^ k : Nat) : Int) = 2 ^ k := Int.natCast_pow 2 k
  have h4 : (-nI j).toInt = -(j : Int) := sb_negT (by omega)
  unfold ex32
  rw [h4, ← h3]
  rcases Nat.eq_zero_or_pos j with q | q
  · subst q
    rw [Nat.sub_zero, Nat.mod_self]
    simp
  · rw [Nat.mod_eq_of_lt (by omega)]
    have h5 : -(j : Int) % ((2 ^ k : Nat) : Int) = ((2 ^ k - j : Nat) : Int) := by
      rw [← Int.add_emod_right, Int.emod_eq_of_lt (by omega) (by omega)]
      omega
    rw [h5]
    rfl
