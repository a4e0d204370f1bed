/-! numbers: every long is lI of a whole number, every int iI of one -/
def lI (z : Int) : Int64 := Int64.ofInt z
def iI (z : Int) : Int32 := Int32.ofInt z
theorem lI_add (a b : Int) : lI a + lI b = lI (a + b) := (Int64.ofInt_add a b).symm
theorem lI_mul (a b : Int) : lI a * lI b = lI (a * b) := (Int64.ofInt_mul a b).symm
theorem lI_neg (a : Int) : -lI a = lI (-a) := (Int64.ofInt_neg a).symm
theorem lI_sub (a b : Int) : lI a - lI b = lI (a - b) := (Int64.ofInt_sub a b).symm
theorem iI_add (a b : Int) : iI a + iI b = iI (a + b) := (Int32.ofInt_add a b).symm
theorem iI_mul (a b : Int) : iI a * iI b = iI (a * b) := (Int32.ofInt_mul a b).symm
theorem iI_sub (a b : Int) : iI a - iI b = iI (a - b) := (Int32.ofInt_sub a b).symm
theorem lI_toInt {z : Int} (h1 : -2 ^ 63 ≤ z) (h2 : z < 2 ^ 63) : (lI z).toInt = z := by
  unfold lI
  rw [Int64.toInt_ofInt, Jvm.Kit.bmod64 h1 h2]
theorem iI_toInt {z : Int} (h1 : -2 ^ 31 ≤ z) (h2 : z < 2 ^ 31) : (iI z).toInt = z := by
  unfold iI
  rw [Int32.toInt_ofInt, Jvm.Kit.bmod32 h1 h2]
theorem lI_of (x : Int64) : lI x.toInt = x := Int64.ofInt_toInt x
theorem iI_of (x : Int32) : iI x.toInt = x := Int32.ofInt_toInt x
theorem lI_eq {a b : Int} (ha : -2 ^ 63 ≤ a) (ha2 : a < 2 ^ 63) (hb : -2 ^ 63 ≤ b) (hb2 : b < 2 ^ 63) : lI a = lI b ↔ a = b := by
  constructor
  · intro h
    have := congrArg Int64.toInt h
    rwa [lI_toInt ha ha2, lI_toInt hb hb2] at this
  · rintro rfl; rfl
theorem lI_le {a b : Int} (ha : -2 ^ 63 ≤ a) (ha2 : a < 2 ^ 63) (hb : -2 ^ 63 ≤ b) (hb2 : b < 2 ^ 63) : lI a ≤ lI b ↔ a ≤ b := by
  rw [Int64.le_iff_toInt_le, lI_toInt ha ha2, lI_toInt hb hb2]
theorem lI_lt {a b : Int} (ha : -2 ^ 63 ≤ a) (ha2 : a < 2 ^ 63) (hb : -2 ^ 63 ≤ b) (hb2 : b < 2 ^ 63) : lI a < lI b ↔ a < b := by
  rw [Int64.lt_iff_toInt_lt, lI_toInt ha ha2, lI_toInt hb hb2]
theorem lI_rem {a b : Int} (ha : -2 ^ 63 ≤ a) (ha2 : a < 2 ^ 63) (hb : -2 ^ 63 ≤ b) (hb2 : b < 2 ^ 63) : lI a - lI a / lI b * lI b = lI (a.tmod b) := by
  rw [← lI_of (lI a - lI a / lI b * lI b), Jvm.Kit.i64_rem, lI_toInt ha ha2, lI_toInt hb hb2]
theorem lI_rem0 {a b : Int} (ha : 0 ≤ a) (ha2 : a < 2 ^ 63) (hb : 0 ≤ b) (hb2 : b < 2 ^ 63) : lI a - lI a / lI b * lI b = lI (a % b) := by
  rw [lI_rem (by omega) ha2 (by omega) hb2, Int.tmod_eq_emod_of_nonneg ha]
theorem lI_div {a b : Int} (ha : 0 ≤ a) (ha2 : a < 2 ^ 63) (hb : 0 < b) (hb2 : b < 2 ^ 63) : lI a / lI b = lI (a / b) := by
  rw [← lI_of (lI a / lI b), Jvm.Kit.i64_div (by rw [lI_toInt (by omega) ha2]; omega), lI_toInt (by omega) ha2, lI_toInt (by omega) hb2, Int.tdiv_eq_ediv_of_nonneg ha]
theorem i2l_I (x : Int32) : x.toInt64 = lI x.toInt := by
  rw [← lI_of x.toInt64, Jvm.Kit.i64_of_i32]
theorem iI_l {z : Int} (h1 : -2 ^ 31 ≤ z) (h2 : z < 2 ^ 31) : (iI z).toInt64 = lI z := by
  rw [i2l_I, iI_toInt h1 h2]
theorem nI_lI {n : Nat} (h : n < 2 ^ 31) : (nI n).toInt64 = lI n := by
  rw [i2l_I, nI_toInt h]
theorem lI_i (z : Int) : (lI z).toInt32 = iI z := by
  unfold lI iI
  rw [← Int32.ofInt_toInt (Int64.toInt32 (Int64.ofInt z)), Int64.toInt_toInt32, Int64.toInt_ofInt]
  apply Int32.toInt_inj.mp
  rw [Int32.toInt_ofInt, Int32.toInt_ofInt]
  simp only [Int.bmod_bmod]
  exact Int.bmod_bmod_of_dvd (by decide)
theorem nI_I (n : Nat) : nI n = iI n := by
  unfold nI iI
  exact (Int32.ofInt_eq_ofNat).symm
theorem lN_I (n : Nat) : lN n = lI n := by
  unfold lN lI
  exact (Int64.ofInt_eq_ofNat).symm
/-- longs in an array: written at a place -/
def upI (F : Nat → Int) (k : Nat) (z : Int) : Nat → Int := fun j => if j = k then z else F j
theorem upI_l (F : Nat → Int) (k : Nat) (z : Int) : vp_updL (fun j => lI (F j)) k (lI z) = fun j => lI (upI F k z j) := by
  funext j
  unfold vp_updL upI
  by_cases h : j = k <;> simp [h]
theorem upI_s {F : Nat → Int} {k : Nat} {z : Int} : upI F k z k = z := if_pos rfl
theorem upI_n {F : Nat → Int} {k j : Nat} {z : Int} (h : j ≠ k) : upI F k z j = F j := if_neg h
theorem lI_fun (f : Nat → Int64) : f = fun j => lI ((fun j => (f j).toInt) j) := by
  funext j
  exact (lI_of (f j)).symm
theorem mul_b30 {a b c : Int} (ha : 0 ≤ a) (ha2 : a < c) (hb : 0 ≤ b) (hb2 : b < c) (hc : c ≤ 2 ^ 30) : 0 ≤ a * b ∧ a * b < 2 ^ 60 := by
  refine ⟨Int.mul_nonneg ha hb, ?_⟩
  have h1 : a * b ≤ a * (2 ^ 30 - 1) := Int.mul_le_mul_of_nonneg_left (by omega) ha
  have h2 : a * (2 ^ 30 - 1) ≤ (2 ^ 30 - 1) * (2 ^ 30 - 1) := Int.mul_le_mul_of_nonneg_right (by omega) (by omega)
  omega
/-- the step of raising to a power, modulo P -/
theorem raise_step (r s P : Int) (k : Nat) : (if k % 2 = 1 then r * s % P else r) * ((s * s % P) ^ (k / 2)) % P = r * s ^ k % P := by
  have hs : ∀ q : Nat, (s * s % P) ^ q % P = (s * s) ^ q % P := by
    intro q
    induction q with
    | zero => rw [Int.pow_zero, Int.pow_zero]
    | succ q ih => rw [Int.pow_succ, Int.pow_succ, Int.mul_emod, ih, Int.emod_emod, ← Int.mul_emod]
  have hk : s ^ k = (s * s) ^ (k / 2) * s ^ (k % 2) := by
    have h2 : s * s = s ^ 2 := by rw [Int.pow_succ, Int.pow_succ, Int.pow_zero, Int.one_mul]
    rw [h2, ← Int.pow_mul, ← Int.pow_add]
    congr 1
    omega
  by_cases h : k % 2 = 1
  · rw [if_pos h, Int.mul_emod, hs, Int.emod_emod, ← Int.mul_emod, hk, h, Int.pow_succ, Int.pow_zero, Int.one_mul]
    congr 1
    rw [Int.mul_assoc, Int.mul_comm s]
  · have h0 : k % 2 = 0 := by omega
    rw [if_neg h, Int.mul_emod, hs, ← Int.mul_emod, hk, h0, Int.pow_zero, Int.mul_one]
/-- the remainder, as the class has it: what Java's % leaves, and p more below 0 -/
theorem rem_fix {x p : Int} (hp : 0 < p) : (if x.tmod p < 0 then x.tmod p + p else x.tmod p) = x % p := by
  have h2 := Int.emod_nonneg x (show p ≠ 0 by omega)
  have h3 := Int.emod_lt_of_pos x hp
  have h4 : ((p.natAbs : Nat) : Int) = p := by omega
  rw [Int.tmod_eq_emod]
  by_cases h : 0 ≤ x ∨ p ∣ x
  · rw [if_pos h, show x % p - ((0 : Nat) : Int) = x % p by omega, if_neg (by omega)]
  · rw [if_neg h, h4, if_pos (by omega)]
    omega
