/-! sums and congruences -/
def sm (f : Nat → Int) : Nat → Int
  | 0 => 0
  | n + 1 => sm f n + f n
def cg (P a b : Int) : Prop := a % P = b % P
theorem cg.rf {P a : Int} : cg P a a := rfl
theorem cg.of {P a b : Int} (h : a = b) : cg P a b := by rw [h]; exact rfl
theorem cg.symm {P a b : Int} (h : cg P a b) : cg P b a := Eq.symm h
theorem cg.trans {P a b c : Int} (h : cg P a b) (h2 : cg P b c) : cg P a c := Eq.trans h h2
theorem cg.add {P a b c d : Int} (h : cg P a b) (h2 : cg P c d) : cg P (a + c) (b + d) := by
  unfold cg at *
  rw [Int.add_emod, h, h2, ← Int.add_emod]
theorem cg.sub {P a b c d : Int} (h : cg P a b) (h2 : cg P c d) : cg P (a - c) (b - d) := by
  unfold cg at *
  rw [Int.sub_emod, h, h2, ← Int.sub_emod]
theorem cg.mul {P a b c d : Int} (h : cg P a b) (h2 : cg P c d) : cg P (a * c) (b * d) := by
  unfold cg at *
  rw [Int.mul_emod, h, h2, ← Int.mul_emod]
theorem cg.pow {P a b : Int} (h : cg P a b) : ∀ n : Nat, cg P (a ^ n) (b ^ n)
  | 0 => cg.of (by rw [Int.pow_zero, Int.pow_zero])
  | n + 1 => by rw [Int.pow_succ, Int.pow_succ]; exact (cg.pow h n).mul h
theorem cg.md (P a : Int) : cg P (a % P) a := Int.emod_emod a P
theorem cg.plus (P a : Int) : cg P (a + P) a := Int.add_emod_right a P
theorem sm_congr {f g : Nat → Int} : ∀ {n : Nat}, (∀ i, i < n → f i = g i) → sm f n = sm g n
  | 0, _ => rfl
  | n + 1, h => by
    show sm f n + f n = sm g n + g n
    rw [sm_congr (fun i hi => h i (by omega)), h n (by omega)]
theorem sm_cg {P : Int} {f g : Nat → Int} : ∀ {n : Nat}, (∀ i, i < n → cg P (f i) (g i)) → cg P (sm f n) (sm g n)
  | 0, _ => cg.rf
  | n + 1, h => (sm_cg (fun i hi => h i (by omega))).add (h n (by omega))
theorem sm_add (f g : Nat → Int) : ∀ n : Nat, sm f n + sm g n = sm (fun i => f i + g i) n
  | 0 => rfl
  | n + 1 => by
    show sm f n + f n + (sm g n + g n) = sm (fun i => f i + g i) n + (f n + g n)
    rw [← sm_add f g n]
    omega
theorem sm_sub (f g : Nat → Int) : ∀ n : Nat, sm f n - sm g n = sm (fun i => f i - g i) n
  | 0 => rfl
  | n + 1 => by
    show sm f n + f n - (sm g n + g n) = sm (fun i => f i - g i) n + (f n - g n)
    rw [← sm_sub f g n]
    omega
theorem sm_mul (f : Nat → Int) (c : Int) : ∀ n : Nat, sm f n * c = sm (fun i => f i * c) n
  | 0 => Int.zero_mul c
  | n + 1 => by
    show (sm f n + f n) * c = sm (fun i => f i * c) n + f n * c
    rw [Int.add_mul, sm_mul f c n]
theorem sm_zero (n : Nat) : sm (fun _ => 0) n = 0 := by
  induction n with
  | zero => rfl
  | succ n ih => show sm _ n + 0 = 0; rw [ih]; rfl
theorem sm_app (f : Nat → Int) (n : Nat) : ∀ m : Nat, sm f (n + m) = sm f n + sm (fun i => f (n + i)) m
  | 0 => by show sm f n = sm f n + 0; omega
  | m + 1 => by
    show sm f (n + m) + f (n + m) = sm f n + (sm (fun i => f (n + i)) m + f (n + m))
    rw [sm_app f n m]
    omega
theorem sm_two (f : Nat → Int) (h : Nat) : sm f (2 * h) = sm (fun i => f i + f (h + i)) h := by
  rw [show 2 * h = h + h by omega, sm_app, sm_add]
/-- the sum over both -/
def sm2 (f : Nat → Nat → Int) (n : Nat) : Int := sm (fun u => sm (fun v => f u v) n) n
theorem sm2_congr {f g : Nat → Nat → Int} {n : Nat} (h : ∀ u, u < n → ∀ v, v < n → f u v = g u v) : sm2 f n = sm2 g n := sm_congr fun u hu => sm_congr fun v hv => h u hu v hv
theorem sm2_cg {P : Int} {f g : Nat → Nat → Int} {n : Nat} (h : ∀ u, u < n → ∀ v, v < n → cg P (f u v) (g u v)) : cg P (sm2 f n) (sm2 g n) := sm_cg fun u hu => sm_cg fun v hv => h u hu v hv
theorem sm2_add (f g : Nat → Nat → Int) (n : Nat) : sm2 f n + sm2 g n = sm2 (fun u v => f u v + g u v) n := by
  unfold sm2
  rw [sm_add]
  exact sm_congr fun u _ => sm_add _ _ n
theorem sm2_sub (f g : Nat → Nat → Int) (n : Nat) : sm2 f n - sm2 g n = sm2 (fun u v => f u v - g u v) n := by
  unfold sm2
  rw [sm_sub]
  exact sm_congr fun u _ => sm_sub _ _ n
theorem sm2_mul (f : Nat → Nat → Int) (c : Int) (n : Nat) : sm2 f n * c = sm2 (fun u v => f u v * c) n := by
  unfold sm2
  rw [sm_mul]
  exact sm_congr fun u _ => sm_mul _ _ n
theorem sm2_two (f : Nat → Nat → Int) (h : Nat) : sm2 f (2 * h) = sm2 (fun u v => f u v + f u (h + v) + (f (h + u) v + f (h + u) (h + v))) h := by
  unfold sm2
  rw [sm_two]
  refine sm_congr fun u _ => ?_
  rw [sm_two, sm_two, sm_add]
/-- blocks of n folded round -/
def bc (F K : Nat → Int) (n : Nat) (i : Nat) : Int := sm2 (fun u v => if (u + v) % n = i % n then F (i - i % n + u) * K (i - i % n + v) else 0) n
theorem bc_1 (F K : Nat → Int) (i : Nat) : bc F K 1 i = F i * K i := by
  unfold bc sm2
  show 0 + (0 + (if (0 + 0) % 1 = i % 1 then F (i - i % 1 + 0) * K (i - i % 1 + 0) else 0)) = F i * K i
  rw [if_pos (by omega), show i - i % 1 + 0 = i by omega]
  omega
theorem bc_cg {P : Int} {F F' K K' : Nat → Int} {n N i : Nat} (hn : 0 < n) (hi : i - i % n + n ≤ N) (hF : ∀ j, j < N → cg P (F j) (F' j)) (hK : ∀ j, j < N → cg P (K j) (K' j)) : cg P (bc F K n i) (bc F' K' n i) := by
  refine sm2_cg fun u hu v hv => ?_
  split
  · exact (hF _ (by omega)).mul (hK _ (by omega))
  · exact cg.rf
/-- the pure form of a level taken apart, put together; z: the root of that level -/
def spZ (F : Nat → Int) (h : Nat) (z : Int) : Nat → Int := fun j => if j % (2 * h) < h then F j + F (j + h) else (F (j - h) - F j) * z ^ (j % (2 * h) - h)
def jnZ (F : Nat → Int) (h : Nat) (z : Int) : Nat → Int := fun j => if j % (2 * h) < h then F j + F (j + h) * z ^ (j % (2 * h)) else F (j - h) - F j * z ^ (j % (2 * h) - h)
theorem md_lo {a t h : Nat} (ha : a % (2 * h) = 0) (ht : t < h) : (a + t) % (2 * h) = t ∧ (a + t) % h = t := by
  have h0 : a % h = 0 := Nat.mod_eq_zero_of_dvd (Nat.dvd_trans (Nat.dvd_mul_left h 2) (Nat.dvd_of_mod_eq_zero ha))
  constructor
  · rw [Nat.add_mod, ha, Nat.zero_add, Nat.mod_mod, Nat.mod_eq_of_lt (by omega)]
  · rw [Nat.add_mod, h0, Nat.zero_add, Nat.mod_mod, Nat.mod_eq_of_lt ht]
theorem md_hi {a t h : Nat} (ha : a % (2 * h) = 0) (ht : t < h) : (a + (h + t)) % (2 * h) = h + t ∧ (a + (h + t)) % h = t := by
  have h0 : a % h = 0 := Nat.mod_eq_zero_of_dvd (Nat.dvd_trans (Nat.dvd_mul_left h 2) (Nat.dvd_of_mod_eq_zero ha))
  constructor
  · rw [Nat.add_mod, ha, Nat.zero_add, Nat.mod_mod, Nat.mod_eq_of_lt (by omega)]
  · rw [Nat.add_mod, h0, Nat.zero_add, Nat.mod_mod, Nat.add_mod_left, Nat.mod_eq_of_lt ht]
theorem spZ_lo {F : Nat → Int} {h a t : Nat} {z : Int} (ha : a % (2 * h) = 0) (ht : t < h) : spZ F h z (a + t) = F (a + t) + F (a + (h + t)) := by
  unfold spZ
  rw [(md_lo ha ht).1, if_pos ht, show a + t + h = a + (h + t) by omega]
theorem spZ_hi {F : Nat → Int} {h a t : Nat} {z : Int} (ha : a % (2 * h) = 0) (ht : t < h) : spZ F h z (a + (h + t)) = (F (a + t) - F (a + (h + t))) * z ^ t := by
  unfold spZ
  rw [(md_hi ha ht).1, if_neg (by omega), show a + (h + t) - h = a + t by omega, show h + t - h = t by omega]
theorem jnZ_lo {F : Nat → Int} {h a t : Nat} {z : Int} (ha : a % (2 * h) = 0) (ht : t < h) : jnZ F h z (a + t) = F (a + t) + F (a + (h + t)) * z ^ t := by
  unfold jnZ
  rw [(md_lo ha ht).1, if_pos ht, show a + t + h = a + (h + t) by omega]
theorem jnZ_hi {F : Nat → Int} {h a t : Nat} {z : Int} (ha : a % (2 * h) = 0) (ht : t < h) : jnZ F h z (a + (h + t)) = F (a + t) - F (a + (h + t)) * z ^ t := by
  unfold jnZ
  rw [(md_hi ha ht).1, if_neg (by omega), show a + (h + t) - h = a + t by omega, show h + t - h = t by omega]
theorem bc_at {F K : Nat → Int} {n a t : Nat} (h1 : (a + t) % n = t) : bc F K n (a + t) = sm2 (fun u v => if (u + v) % n = t then F (a + u) * K (a + v) else 0) n := by
  unfold bc
  rw [h1, show a + t - t = a by omega]
theorem wrap {x y h : Nat} (hx : x < h) (hy : y < h) : (x + y < h ∧ (x + y) % h = x + y ∧ (x + y) % (2 * h) = x + y ∧ (x + (h + y)) % (2 * h) = h + (x + y) ∧ (h + x + y) % (2 * h) = h + (x + y) ∧ (h + x + (h + y)) % (2 * h) = x + y) ∨ (h ≤ x + y ∧ (x + y) % h = x + y - h ∧ (x + y) % (2 * h) = x + y ∧ (x + (h + y)) % (2 * h) = x + y - h ∧ (h + x + y) % (2 * h) = x + y - h ∧ (h + x + (h + y)) % (2 * h) = x + y) := by
  have m1 : ∀ p n : Nat, p < n → p % n = p := fun p n hp => Nat.mod_eq_of_lt hp
  have m2 : ∀ p n : Nat, n ≤ p → p - n < n → p % n = p - n := fun p n h1 h2 => by rw [Nat.mod_eq_sub_mod h1, Nat.mod_eq_of_lt h2]
  rcases Nat.lt_or_ge (x + y) h with q | q
  · refine Or.inl ⟨q, m1 _ _ q, m1 _ _ (by omega), (m1 _ _ (by omega)).trans (by omega), (m1 _ _ (by omega)).trans (by omega), (m2 _ _ (by omega) (by omega)).trans (by omega)⟩
  · refine Or.inr ⟨q, m2 _ _ q (by omega), m1 _ _ (by omega), (m2 _ _ (by omega) (by omega)).trans (by omega), (m2 _ _ (by omega) (by omega)).trans (by omega), (m2 _ _ (by omega) (by omega)).trans (by omega)⟩
/-- a folding taken apart is the folding of what was taken apart: the lower places -/
theorem bc_lo {F K : Nat → Int} {h a t : Nat} {z : Int} (ha : a % (2 * h) = 0) (ht : t < h) : bc (spZ F h z) (spZ K h z) h (a + t) = spZ (bc F K (2 * h)) h z (a + t) := by
  rw [spZ_lo ha ht, bc_at (md_lo ha ht).2, bc_at (md_lo ha ht).1, bc_at (md_hi ha ht).1, sm2_add, sm2_two]
  refine sm2_congr fun u hu v hv => ?_
  rw [spZ_lo ha hu, spZ_lo ha hv]
  have hd : ∀ A B C D : Int, (A + B) * (C + D) = A * C + A * D + (B * C + B * D) := fun A B C D => by rw [Int.add_mul, Int.mul_add, Int.mul_add]
  rcases wrap hu hv with ⟨q, e1, e2, e3, e4, e5⟩ | ⟨q, e1, e2, e3, e4, e5⟩
  · rw [e1, e2, e3, e4, e5, hd]
    by_cases g : u + v = t
    · simp only [g, if_true, if_neg (show ¬ t = h + t by omega), if_neg (show ¬ h + t = t by omega)]
      omega
    · simp only [if_neg g, if_neg (show ¬ u + v = h + t by omega), if_neg (show ¬ h + (u + v) = t by omega), if_neg (show ¬ h + (u + v) = h + t by omega)]
      omega
  · rw [e1, e2, e3, e4, e5, hd]
    by_cases g : u + v - h = t
    · simp only [g, if_true, if_neg (show ¬ u + v = t by omega), if_pos (show u + v = h + t by omega), if_neg (show ¬ t = h + t by omega)]
      omega
    · simp only [if_neg g, if_neg (show ¬ u + v = t by omega), if_neg (show ¬ u + v = h + t by omega), if_neg (show ¬ u + v - h = h + t by omega)]
      omega
theorem bc_hi {P : Int} {F K : Nat → Int} {h a t : Nat} {z : Int} (ha : a % (2 * h) = 0) (ht : t < h) (hz : cg P (z ^ h) (-1)) : cg P (bc (spZ F h z) (spZ K h z) h (a + (h + t))) (spZ (bc F K (2 * h)) h z (a + (h + t))) := by
  have e0 : a + (h + t) = (a + h) + t := by omega
  have e1 : ((a + h) + t) % h = t := by rw [← e0]; exact (md_hi ha ht).2
  rw [spZ_hi ha ht, bc_at (md_lo ha ht).1, bc_at (md_hi ha ht).1, e0, bc_at e1, sm2_sub, sm2_mul, sm2_two]
  refine sm2_cg fun u hu v hv => ?_
  rw [show a + h + u = a + (h + u) by omega, show a + h + v = a + (h + v) by omega, spZ_hi ha hu, spZ_hi ha hv]
  have hd : ∀ A B C D x y : Int, (A - B) * x * ((C - D) * y) = (A * C - A * D - (B * C - B * D)) * (x * y) := fun A B C D x y => by
    rw [← Int.mul_sub, ← Int.mul_sub, ← Int.sub_mul, Int.mul_assoc, Int.mul_assoc, Int.mul_left_comm x]
  have hs : z ^ u * z ^ v = z ^ (u + v) := (Int.pow_add z u v).symm
  rcases wrap hu hv with ⟨q, f1, f2, f3, f4, f5⟩ | ⟨q, f1, f2, f3, f4, f5⟩
  · rw [f1, f2, f3, f4, f5, hd, hs]
    by_cases g : u + v = t
    · simp only [g, if_true, if_neg (show ¬ t = h + t by omega), if_neg (show ¬ h + t = t by omega)]
      refine cg.of ?_
      rw [← Int.add_mul, ← Int.add_mul, ← Int.add_mul]
      congr 1
      omega
    · simp only [if_neg g, if_neg (show ¬ u + v = h + t by omega), if_neg (show ¬ h + (u + v) = t by omega), if_neg (show ¬ h + (u + v) = h + t by omega)]
      refine cg.of ?_
      omega
  · rw [f1, f2, f3, f4, f5, hd, hs]
    by_cases g : u + v - h = t
    · simp only [g, if_true, if_neg (show ¬ u + v = t by omega), if_pos (show u + v = h + t by omega), if_neg (show ¬ t = h + t by omega)]
      rw [show u + v = h + t by omega, Int.pow_add]
      have h1 : cg P (z ^ h * z ^ t) (-1 * z ^ t) := hz.mul cg.rf
      refine (cg.mul cg.rf h1).trans (cg.of ?_)
      rw [← Int.add_mul, ← Int.add_mul, ← Int.add_mul, ← Int.mul_assoc]
      congr 1
      omega
    · simp only [if_neg g, if_neg (show ¬ u + v = t by omega), if_neg (show ¬ u + v = h + t by omega), if_neg (show ¬ u + v - h = h + t by omega)]
      refine cg.of ?_
      omega
/-- every place lies in a block, in its lower or its upper half -/
theorem place (i h : Nat) (hh : 0 < h) : ∃ a t, a % (2 * h) = 0 ∧ t < h ∧ (i = a + t ∨ i = a + (h + t)) := by
  have h1 := Nat.div_add_mod i (2 * h)
  have h2 := Nat.mod_lt i (show 0 < 2 * h by omega)
  rcases Nat.lt_or_ge (i % (2 * h)) h with q | q
  · exact ⟨2 * h * (i / (2 * h)), i % (2 * h), Nat.mul_mod_right _ _, q, Or.inl h1.symm⟩
  · exact ⟨2 * h * (i / (2 * h)), i % (2 * h) - h, Nat.mul_mod_right _ _, by omega, Or.inr (by omega)⟩
theorem bc_sp {P : Int} {F K : Nat → Int} {h : Nat} {z : Int} (hh : 0 < h) (hz : cg P (z ^ h) (-1)) (i : Nat) : cg P (bc (spZ F h z) (spZ K h z) h i) (spZ (bc F K (2 * h)) h z i) := by
  obtain ⟨a, t, ha, ht, rfl | rfl⟩ := place i h hh
  · exact cg.of (bc_lo ha ht)
  · exact bc_hi ha ht hz
theorem jn_sp {P : Int} {F : Nat → Int} {h : Nat} {z y : Int} (hh : 0 < h) (hzy : cg P (z * y) 1) (c : Int) {X : Nat → Int} {N : Nat} (hN : N % (2 * h) = 0) (hX : ∀ i, i < N → cg P (X i) (c * spZ F h z i)) : ∀ i, i < N → cg P (jnZ X h y i) (2 * c * F i) := by
  intro i hi
  have hp : ∀ t : Nat, cg P (z ^ t * y ^ t) 1 := fun t => by
    rw [← Int.mul_pow]
    refine (hzy.pow t).trans (cg.of Int.one_pow)
  have hb : ∀ a : Nat, a % (2 * h) = 0 → a < N → a + 2 * h ≤ N := fun a ha hlt => (blk_next (q := N / (2 * h)) ha (by have := Nat.div_add_mod N (2 * h); rw [hN, Nat.add_zero, Nat.mul_comm] at this; exact this.symm) hlt (by omega)).1
  obtain ⟨a, t, ha, ht, rfl | rfl⟩ := place i h hh
  · have hb2 := hb a ha (by omega)
    have x1 := hX (a + t) (by omega)
    have x2 := hX (a + (h + t)) (by omega)
    rw [spZ_lo ha ht] at x1
    rw [spZ_hi ha ht] at x2
    rw [jnZ_lo ha ht]
    refine (x1.add (x2.mul cg.rf)).trans ?_
    have e : c * ((F (a + t) - F (a + (h + t))) * z ^ t) * y ^ t = c * (F (a + t) - F (a + (h + t))) * (z ^ t * y ^ t) := by
      rw [← Int.mul_assoc, Int.mul_assoc]
    rw [e]
    refine (cg.add cg.rf (cg.mul cg.rf (hp t))).trans (cg.of ?_)
    rw [Int.mul_one, ← Int.mul_add, show F (a + t) + F (a + (h + t)) + (F (a + t) - F (a + (h + t))) = 2 * F (a + t) by omega, ← Int.mul_assoc, Int.mul_comm c 2]
  · have hb2 := hb a ha (by omega)
    have x1 := hX (a + t) (by omega)
    have x2 := hX (a + (h + t)) (by omega)
    rw [spZ_lo ha ht] at x1
    rw [spZ_hi ha ht] at x2
    rw [jnZ_hi ha ht]
    refine (x1.sub (x2.mul cg.rf)).trans ?_
    have e : c * ((F (a + t) - F (a + (h + t))) * z ^ t) * y ^ t = c * (F (a + t) - F (a + (h + t))) * (z ^ t * y ^ t) := by
      rw [← Int.mul_assoc, Int.mul_assoc]
    rw [e]
    refine (cg.sub cg.rf (cg.mul cg.rf (hp t))).trans (cg.of ?_)
    rw [Int.mul_one, ← Int.mul_sub, show F (a + t) + F (a + (h + t)) - (F (a + t) - F (a + (h + t))) = 2 * F (a + (h + t)) by omega, ← Int.mul_assoc, Int.mul_comm c 2]
