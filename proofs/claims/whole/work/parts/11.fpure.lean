/-! the folder's rows as functions of whole numbers -/
theorem mul_b31 {a b c : Int} (ha : 0 ≤ a) (ha2 : a < 2 * c) (hb : 0 ≤ b) (hb2 : b < c) (hc : c ≤ 2 ^ 30) : 0 ≤ a * b ∧ a * b < 2 ^ 61 := by
  refine ⟨Int.mul_nonneg ha hb, ?_⟩
  have h1 : a * b ≤ a * (2 ^ 30 - 1) := Int.mul_le_mul_of_nonneg_left (by omega) ha
  have h2 : a * (2 ^ 30 - 1) ≤ (2 ^ 31 - 1) * (2 ^ 30 - 1) := Int.mul_le_mul_of_nonneg_right (by omega) (by omega)
  omega
theorem sub_emod1 {x P : Int} (h1 : P ≤ x) (h2 : x < 2 * P) : x - P = x % P := by
  rw [← Int.sub_emod_right, Int.emod_eq_of_lt (by omega) (by omega)]
theorem add_emod1 {x P : Int} (h1 : x < 0) (h2 : -P ≤ x) : x + P = x % P := by
  rw [← Int.add_emod_right, Int.emod_eq_of_lt (by omega) (by omega)]
theorem idx_lt {t h d N : Nat} (ht : t < h) (hd : 0 < d) (hh : h * d ≤ N) : t * d < N := Nat.lt_of_lt_of_le (Nat.mul_lt_mul_of_pos_right ht hd) hh
theorem emod_rng (x : Int) {P : Int} (hP : 0 < P) : 0 ≤ x % P ∧ x % P < P := ⟨Int.emod_nonneg x (by omega), Int.emod_lt_of_pos x hP⟩
def inR (F : Nat → Int) (N : Nat) (P : Int) : Prop := ∀ j, j < N → 0 ≤ F j ∧ F j < P
/-- the powers of w -/
def rpw (G : Nat → Int) (w : Int) (P : Int) (n : Nat) : Nat → Int := fun j => if j < n then w ^ j % P else G j
theorem rpw_1 (G : Nat → Int) (w : Int) {P : Int} (hP : 1 < P) : upI G 0 1 = rpw G w P 1 := by
  funext j
  unfold upI rpw
  by_cases h : j = 0
  · subst h
    rw [if_pos rfl, if_pos (by omega), Int.pow_zero, Int.emod_eq_of_lt (by omega) hP]
  · rw [if_neg h, if_neg (by omega)]
theorem rpw_p {G : Nat → Int} {w P : Int} {i : Nat} (hi : 0 < i) : rpw G w P i (i - 1) = w ^ (i - 1) % P := if_pos (by omega)
theorem rpw_s {G : Nat → Int} {w P : Int} {i : Nat} (hi : 0 < i) : upI (rpw G w P i) i (w ^ (i - 1) % P * w % P) = rpw G w P (i + 1) := by
  funext j
  unfold upI rpw
  by_cases h : j = i
  · subst h
    rw [if_pos rfl, if_pos (by omega)]
    obtain ⟨n, rfl⟩ : ∃ n, j = n + 1 := ⟨j - 1, by omega⟩
    rw [Nat.add_sub_cancel, Int.pow_succ, Int.mul_emod, Int.emod_emod, ← Int.mul_emod]
  · rw [if_neg h]
    by_cases h2 : j < i
    · rw [if_pos h2, if_pos (by omega)]
    · rw [if_neg h2, if_neg (by omega)]
theorem rpw_rng {G : Nat → Int} {w P : Int} {n N : Nat} (hP : 0 < P) (h : N ≤ n) : inR (rpw G w P n) N P := fun j hj => by
  unfold rpw
  rw [if_pos (by omega)]
  exact emod_rng _ hP
/-- a block taken apart, t of its h pairs -/
def spB (F G : Nat → Int) (a h d : Nat) (P : Int) (t : Nat) : Nat → Int := fun j => if a ≤ j ∧ j < a + t then (F j + F (j + h)) % P else if a + h ≤ j ∧ j < a + h + t then (F (j - h) - F j + P) * G ((j - a - h) * d) % P else F j
theorem spB_0 (F G : Nat → Int) (a h d : Nat) (P : Int) : spB F G a h d P 0 = F := by
  funext j
  unfold spB
  rw [if_neg (by omega), if_neg (by omega)]
theorem spB_a {F G : Nat → Int} {a h d : Nat} {P : Int} {t : Nat} (ht : t < h) : spB F G a h d P t (a + t) = F (a + t) := by
  unfold spB
  rw [if_neg (by omega), if_neg (by omega)]
theorem spB_b {F G : Nat → Int} {a h d : Nat} {P : Int} {t : Nat} (ht : t < h) : spB F G a h d P t (a + h + t) = F (a + h + t) := by
  unfold spB
  rw [if_neg (by omega), if_neg (by omega)]
theorem spB_s {F G : Nat → Int} {a h d : Nat} {P : Int} {t : Nat} (ht : t < h) : upI (upI (spB F G a h d P t) (a + t) ((F (a + t) + F (a + h + t)) % P)) (a + h + t) ((F (a + t) - F (a + h + t) + P) * G (t * d) % P) = spB F G a h d P (t + 1) := by
  funext j
  unfold upI spB
  by_cases h1 : j = a + h + t
  · subst h1
    rw [if_pos rfl, if_neg (by omega), if_pos (by omega), show a + h + t - h = a + t by omega, show a + h + t - a - h = t by omega]
  · rw [if_neg h1]
    by_cases h2 : j = a + t
    · subst h2
      rw [if_pos rfl, if_pos (by omega), show a + t + h = a + h + t by omega]
    · rw [if_neg h2]
      by_cases h3 : a ≤ j ∧ j < a + t
      · rw [if_pos h3, if_pos (by omega)]
      · have h5 : ¬ (a ≤ j ∧ j < a + (t + 1)) := by omega
        by_cases h4 : a + h ≤ j ∧ j < a + h + t
        · have h6 : a + h ≤ j ∧ j < a + h + (t + 1) := by omega
          rw [if_neg h3, if_pos h4, if_neg h5, if_pos h6]
        · have h6 : ¬ (a + h ≤ j ∧ j < a + h + (t + 1)) := by omega
          rw [if_neg h3, if_neg h4, if_neg h5, if_neg h6]
/-- a block put together -/
def jnB (F G : Nat → Int) (a h d : Nat) (P : Int) (t : Nat) : Nat → Int := fun j => if a ≤ j ∧ j < a + t then (F j + F (j + h) * G ((j - a) * d) % P) % P else if a + h ≤ j ∧ j < a + h + t then (F (j - h) - F j * G ((j - a - h) * d) % P) % P else F j
theorem jnB_0 (F G : Nat → Int) (a h d : Nat) (P : Int) : jnB F G a h d P 0 = F := by
  funext j
  unfold jnB
  rw [if_neg (by omega), if_neg (by omega)]
theorem jnB_a {F G : Nat → Int} {a h d : Nat} {P : Int} {t : Nat} (ht : t < h) : jnB F G a h d P t (a + t) = F (a + t) := by
  unfold jnB
  rw [if_neg (by omega), if_neg (by omega)]
theorem jnB_b {F G : Nat → Int} {a h d : Nat} {P : Int} {t : Nat} (ht : t < h) : jnB F G a h d P t (a + h + t) = F (a + h + t) := by
  unfold jnB
  rw [if_neg (by omega), if_neg (by omega)]
theorem jnB_s {F G : Nat → Int} {a h d : Nat} {P : Int} {t : Nat} (ht : t < h) : upI (upI (jnB F G a h d P t) (a + t) ((F (a + t) + F (a + h + t) * G (t * d) % P) % P)) (a + h + t) ((F (a + t) - F (a + h + t) * G (t * d) % P) % P) = jnB F G a h d P (t + 1) := by
  funext j
  unfold upI jnB
  by_cases h1 : j = a + h + t
  · subst h1
    rw [if_pos rfl, if_neg (by omega), if_pos (by omega), show a + h + t - h = a + t by omega, show a + h + t - a - h = t by omega]
  · rw [if_neg h1]
    by_cases h2 : j = a + t
    · subst h2
      rw [if_pos rfl, if_pos (by omega), show a + t + h = a + h + t by omega, show a + t - a = t by omega]
    · rw [if_neg h2]
      by_cases h3 : a ≤ j ∧ j < a + t
      · rw [if_pos h3, if_pos (by omega)]
      · have h5 : ¬ (a ≤ j ∧ j < a + (t + 1)) := by omega
        by_cases h4 : a + h ≤ j ∧ j < a + h + t
        · have h6 : a + h ≤ j ∧ j < a + h + (t + 1) := by omega
          rw [if_neg h3, if_pos h4, if_neg h5, if_pos h6]
        · have h6 : ¬ (a + h ≤ j ∧ j < a + h + (t + 1)) := by omega
          rw [if_neg h3, if_neg h4, if_neg h5, if_neg h6]
/-- all blocks below a taken apart -/
def spP (F G : Nat → Int) (h d : Nat) (P : Int) (a : Nat) : Nat → Int := fun j => if j < a then (if j % (2 * h) < h then (F j + F (j + h)) % P else (F (j - h) - F j + P) * G ((j % (2 * h) - h) * d) % P) else F j
def jnP (F G : Nat → Int) (h d : Nat) (P : Int) (a : Nat) : Nat → Int := fun j => if j < a then (if j % (2 * h) < h then (F j + F (j + h) * G (j % (2 * h) * d) % P) % P else (F (j - h) - F j * G ((j % (2 * h) - h) * d) % P) % P) else F j
theorem spP_0 (F G : Nat → Int) (h d : Nat) (P : Int) : spP F G h d P 0 = F := by
  funext j
  unfold spP
  rw [if_neg (by omega)]
theorem jnP_0 (F G : Nat → Int) (h d : Nat) (P : Int) : jnP F G h d P 0 = F := by
  funext j
  unfold jnP
  rw [if_neg (by omega)]
theorem spP_lt {F G : Nat → Int} {h d : Nat} {P : Int} {a j : Nat} (hj : j < a) : spP F G h d P a j = if j % (2 * h) < h then (F j + F (j + h)) % P else (F (j - h) - F j + P) * G ((j % (2 * h) - h) * d) % P := if_pos hj
theorem spP_ge {F G : Nat → Int} {h d : Nat} {P : Int} {a j : Nat} (hj : a ≤ j) : spP F G h d P a j = F j := if_neg (by omega)
theorem jnP_lt {F G : Nat → Int} {h d : Nat} {P : Int} {a j : Nat} (hj : j < a) : jnP F G h d P a j = if j % (2 * h) < h then (F j + F (j + h) * G (j % (2 * h) * d) % P) % P else (F (j - h) - F j * G ((j % (2 * h) - h) * d) % P) % P := if_pos hj
theorem jnP_ge {F G : Nat → Int} {h d : Nat} {P : Int} {a j : Nat} (hj : a ≤ j) : jnP F G h d P a j = F j := if_neg (by omega)
theorem blk_mod {a h j : Nat} (hd : a % (2 * h) = 0) (h1 : a ≤ j) (h2 : j < a + 2 * h) : j % (2 * h) = j - a := by
  obtain ⟨t, rfl⟩ : ∃ t, j = a + t := ⟨j - a, by omega⟩
  rw [Nat.add_mod, hd, Nat.zero_add, Nat.mod_mod, Nat.mod_eq_of_lt (by omega)]
  omega
theorem spP_s {F G : Nat → Int} {h d : Nat} {P : Int} {a : Nat} (hd : a % (2 * h) = 0) : spB (spP F G h d P a) G a h d P h = spP F G h d P (a + 2 * h) := by
  funext j
  unfold spB
  by_cases h1 : a ≤ j ∧ j < a + h
  · rw [if_pos h1, spP_ge h1.1, spP_ge (show a ≤ j + h by omega), spP_lt (show j < a + 2 * h by omega), blk_mod hd h1.1 (by omega), if_pos (show j - a < h by omega)]
  · by_cases h2 : a + h ≤ j ∧ j < a + h + h
    · rw [if_neg h1, if_pos h2, spP_ge (show a ≤ j by omega), spP_ge (show a ≤ j - h by omega), spP_lt (show j < a + 2 * h by omega), blk_mod hd (by omega) (by omega), if_neg (show ¬ j - a < h by omega)]
    · rw [if_neg h1, if_neg h2]
      by_cases h3 : j < a
      · rw [spP_lt h3, spP_lt (show j < a + 2 * h by omega)]
      · rw [spP_ge (show a ≤ j by omega), spP_ge (show a + 2 * h ≤ j by omega)]
theorem jnP_s {F G : Nat → Int} {h d : Nat} {P : Int} {a : Nat} (hd : a % (2 * h) = 0) : jnB (jnP F G h d P a) G a h d P h = jnP F G h d P (a + 2 * h) := by
  funext j
  unfold jnB
  by_cases h1 : a ≤ j ∧ j < a + h
  · rw [if_pos h1, jnP_ge h1.1, jnP_ge (show a ≤ j + h by omega), jnP_lt (show j < a + 2 * h by omega), blk_mod hd h1.1 (by omega), if_pos (show j - a < h by omega)]
  · by_cases h2 : a + h ≤ j ∧ j < a + h + h
    · rw [if_neg h1, if_pos h2, jnP_ge (show a ≤ j by omega), jnP_ge (show a ≤ j - h by omega), jnP_lt (show j < a + 2 * h by omega), blk_mod hd (by omega) (by omega), if_neg (show ¬ j - a < h by omega)]
    · rw [if_neg h1, if_neg h2]
      by_cases h3 : j < a
      · rw [jnP_lt h3, jnP_lt (show j < a + 2 * h by omega)]
      · rw [jnP_ge (show a ≤ j by omega), jnP_ge (show a + 2 * h ≤ j by omega)]
theorem spP_rng {F G : Nat → Int} {h d : Nat} {P : Int} {a N : Nat} (hP : 0 < P) (hF : inR F N P) : inR (spP F G h d P a) N P := fun j hj => by
  unfold spP
  split
  · split <;> exact emod_rng _ hP
  · exact hF j hj
theorem jnP_rng {F G : Nat → Int} {h d : Nat} {P : Int} {a N : Nat} (hP : 0 < P) (hF : inR F N P) : inR (jnP F G h d P a) N P := fun j hj => by
  unfold jnP
  split
  · split <;> exact emod_rng _ hP
  · exact hF j hj
/-- n levels taken apart, the widest first; n levels put together, the narrowest first -/
def fwd (F G : Nat → Int) (k : Nat) (P : Int) : Nat → Nat → Int
  | 0 => F
  | n + 1 => spP (fwd F G k P n) G (2 ^ (k - 1 - n)) (2 ^ k / (2 * 2 ^ (k - 1 - n))) P (2 ^ k)
def bwd (F G : Nat → Int) (k : Nat) (P : Int) : Nat → Nat → Int
  | 0 => F
  | n + 1 => jnP (bwd F G k P n) G (2 ^ n) (2 ^ k / (2 * 2 ^ n)) P (2 ^ k)
theorem fwd_rng {F G : Nat → Int} {k : Nat} {P : Int} {N : Nat} (hP : 0 < P) (hF : inR F N P) : ∀ n, inR (fwd F G k P n) N P
  | 0 => hF
  | n + 1 => spP_rng hP (fwd_rng hP hF n)
theorem bwd_rng {F G : Nat → Int} {k : Nat} {P : Int} {N : Nat} (hP : 0 < P) (hF : inR F N P) : ∀ n, inR (bwd F G k P n) N P
  | 0 => hF
  | n + 1 => jnP_rng hP (bwd_rng hP hF n)
/-- the first n multiplied -/
def mlW (F : Nat → Int) (w P : Int) (n : Nat) : Nat → Int := fun j => if j < n then F j * w % P else F j
theorem mlW_0 (F : Nat → Int) (w P : Int) : mlW F w P 0 = F := by
  funext j
  unfold mlW
  rw [if_neg (by omega)]
theorem mlW_i {F : Nat → Int} {w P : Int} {i : Nat} : mlW F w P i i = F i := if_neg (by omega)
theorem mlW_s {F : Nat → Int} {w P : Int} {i : Nat} : upI (mlW F w P i) i (F i * w % P) = mlW F w P (i + 1) := by
  funext j
  unfold upI mlW
  by_cases h : j = i
  · subst h
    rw [if_pos rfl, if_pos (by omega)]
  · rw [if_neg h]
    by_cases h2 : j < i
    · rw [if_pos h2, if_pos (by omega)]
    · rw [if_neg h2, if_neg (by omega)]
def mlF (F K : Nat → Int) (P : Int) (n : Nat) : Nat → Int := fun j => if j < n then F j * K j % P else F j
theorem mlF_0 (F K : Nat → Int) (P : Int) : mlF F K P 0 = F := by
  funext j
  unfold mlF
  rw [if_neg (by omega)]
theorem mlF_i {F K : Nat → Int} {P : Int} {i : Nat} : mlF F K P i i = F i := if_neg (by omega)
theorem mlF_s {F K : Nat → Int} {P : Int} {i : Nat} : upI (mlF F K P i) i (F i * K i % P) = mlF F K P (i + 1) := by
  funext j
  unfold upI mlF
  by_cases h : j = i
  · subst h
    rw [if_pos rfl, if_pos (by omega)]
  · rw [if_neg h]
    by_cases h2 : j < i
    · rw [if_pos h2, if_pos (by omega)]
    · rw [if_neg h2, if_neg (by omega)]
theorem mlF_rng {F K : Nat → Int} {P : Int} {n N : Nat} (hP : 0 < P) (hF : inR F N P) : inR (mlF F K P n) N P := fun j hj => by
  unfold mlF
  split
  · exact emod_rng _ hP
  · exact hF j hj
/-- loaded: the first n hold the row's remainders, the next n 0 -/
def ldR (f : Nat → Int32) (F : Nat → Int) (n : Nat) (P : Int) (t : Nat) : Nat → Int := fun j => if j < t then (f j).toInt % P else if n ≤ j ∧ j < n + t then 0 else F j
theorem ldR_0 (f : Nat → Int32) (F : Nat → Int) (n : Nat) (P : Int) : ldR f F n P 0 = F := by
  funext j
  unfold ldR
  rw [if_neg (by omega), if_neg (by omega)]
theorem ldR_s {f : Nat → Int32} {F : Nat → Int} {n : Nat} {P : Int} {t : Nat} (ht : t < n) : upI (upI (ldR f F n P t) t ((f t).toInt % P)) (t + n) 0 = ldR f F n P (t + 1) := by
  funext j
  unfold upI ldR
  by_cases h1 : j = t + n
  · rw [if_pos h1, if_neg (by omega), if_pos (by omega)]
  · rw [if_neg h1]
    by_cases h2 : j = t
    · subst h2
      rw [if_pos rfl, if_pos (by omega)]
    · rw [if_neg h2]
      by_cases h3 : j < t
      · rw [if_pos h3, if_pos (by omega)]
      · have h5 : ¬ j < t + 1 := by omega
        by_cases h4 : n ≤ j ∧ j < n + t
        · have h6 : n ≤ j ∧ j < n + (t + 1) := by omega
          rw [if_neg h3, if_pos h4, if_neg h5, if_pos h6]
        · have h6 : ¬ (n ≤ j ∧ j < n + (t + 1)) := by omega
          rw [if_neg h3, if_neg h4, if_neg h5, if_neg h6]
theorem ldR_rng {f : Nat → Int32} {F : Nat → Int} {n : Nat} {P : Int} {N : Nat} (hP : 0 < P) (hF : inR F N P) : inR (ldR f F n P n) N P := fun j hj => by
  unfold ldR
  split
  · exact emod_rng _ hP
  · split
    · exact ⟨by omega, hP⟩
    · exact hF j hj
/-- the upper half taken away -/
def tkU (F : Nat → Int) (n : Nat) (P : Int) (t : Nat) : Nat → Int := fun j => if j < t then (F j - F (j + n)) % P else F j
theorem tkU_0 (F : Nat → Int) (n : Nat) (P : Int) : tkU F n P 0 = F := by
  funext j
  unfold tkU
  rw [if_neg (by omega)]
theorem tkU_i {F : Nat → Int} {n : Nat} {P : Int} {t : Nat} : tkU F n P t t = F t := if_neg (by omega)
theorem tkU_n {F : Nat → Int} {n : Nat} {P : Int} {t : Nat} (h : t < n) : tkU F n P t (t + n) = F (t + n) := if_neg (by omega)
theorem tkU_s {F : Nat → Int} {n : Nat} {P : Int} {t : Nat} : upI (tkU F n P t) t ((F t - F (t + n)) % P) = tkU F n P (t + 1) := by
  funext j
  unfold upI tkU
  by_cases h : j = t
  · subst h
    rw [if_pos rfl, if_pos (by omega)]
  · rw [if_neg h]
    by_cases h2 : j < t
    · rw [if_pos h2, if_pos (by omega)]
    · rw [if_neg h2, if_neg (by omega)]
theorem tkU_rng {F : Nat → Int} {n : Nat} {P : Int} {t N : Nat} (hP : 0 < P) (hF : inR F N P) : inR (tkU F n P t) N P := fun j hj => by
  unfold tkU
  split
  · exact emod_rng _ hP
  · exact hF j hj
/-- ints stored -/
def stR (g : Nat → Int32) (F : Nat → Int) (t : Nat) : Nat → Int32 := fun j => if j < t then iI (F j) else g j
theorem stR_0 (g : Nat → Int32) (F : Nat → Int) : stR g F 0 = g := by
  funext j
  unfold stR
  rw [if_neg (by omega)]
theorem stR_s {g : Nat → Int32} {F : Nat → Int} {t : Nat} : upd (stR g F t) t (iI (F t)) = stR g F (t + 1) := by
  funext j
  unfold upd stR
  by_cases h : j = t
  · subst h
    simp
  · by_cases h2 : j < t
    · simp [h, h2, Nat.lt_succ_of_lt h2]
    · simp [h, h2, show ¬ j < t + 1 by omega]
theorem zz_shl {k : Nat} (hk : k ≤ 9) : nI 1 <<< (nI k &&& 31) = nI (2 ^ k) := by
  have : ∀ j : Nat, j < 10 → nI 1 <<< (nI j &&& 31) = nI (2 ^ j) := by decide +kernel
  exact this k (by omega)
theorem pw9 {k : Nat} (hk : k ≤ 9) : 1 ≤ 2 ^ k ∧ 2 ^ k ≤ 512 := by
  have : ∀ j : Nat, j < 10 → 1 ≤ 2 ^ j ∧ 2 ^ j ≤ 512 := by decide
  exact this k (by omega)
theorem pw8 {k : Nat} (hk : k ≤ 8) : 1 ≤ 2 ^ k ∧ 2 ^ k ≤ 256 := by
  have : ∀ j : Nat, j < 9 → 1 ≤ 2 ^ j ∧ 2 ^ j ≤ 256 := by decide
  exact this k (by omega)
/-- how a level's blocks fill the row -/
theorem lvl {k v : Nat} (hk : k ≤ 9) (hv : v < k) : 2 ^ k = 2 ^ k / (2 * 2 ^ v) * (2 * 2 ^ v) ∧ 0 < 2 ^ k / (2 * 2 ^ v) ∧ 2 ^ v * (2 ^ k / (2 * 2 ^ v)) ≤ 2 ^ k / 2 ∧ 1 ≤ 2 ^ v ∧ 2 * 2 ^ v ≤ 2 ^ k := by
  have : ∀ k : Nat, k < 10 → ∀ v : Nat, v < k → 2 ^ k = 2 ^ k / (2 * 2 ^ v) * (2 * 2 ^ v) ∧ 0 < 2 ^ k / (2 * 2 ^ v) ∧ 2 ^ v * (2 ^ k / (2 * 2 ^ v)) ≤ 2 ^ k / 2 ∧ 1 ≤ 2 ^ v ∧ 2 * 2 ^ v ≤ 2 ^ k := by decide
  exact this k (by omega) v hv
theorem blk_next {a h n q : Nat} (hd : a % (2 * h) = 0) (hn : n = q * (2 * h)) (ha : a < n) (hh : 1 ≤ h) : a + 2 * h ≤ n ∧ (a + 2 * h) % (2 * h) = 0 := by
  obtain ⟨b, rfl⟩ : ∃ b, a = b * (2 * h) := ⟨a / (2 * h), by have := Nat.div_add_mod a (2 * h); rw [hd, Nat.add_zero, Nat.mul_comm] at this; exact this.symm⟩
  subst hn
  have hb : b < q := Nat.lt_of_mul_lt_mul_right ha
  have h1 : (b + 1) * (2 * h) ≤ q * (2 * h) := Nat.mul_le_mul_right _ hb
  rw [Nat.add_mul, Nat.one_mul] at h1
  exact ⟨h1, by rw [Nat.add_mod_right]; exact hd⟩
/-- a counter that goes down to -1: n - 1 -/
def zm (n : Nat) : Int32 := nI n + (-1)
theorem zm_i (n : Nat) : nI n - nI 1 = zm n := by
  unfold zm
  rw [Int32.sub_eq_add_neg]
  rfl
theorem zm_s (n : Nat) : zm (n + 1) = nI n := pk_m1 n
theorem zm_0 : zm 0 < 0 := by decide
