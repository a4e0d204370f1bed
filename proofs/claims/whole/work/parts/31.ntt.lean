/-! the rows of the class, modulo a prime -/
theorem spP_cg {P : Int} {F F' G : Nat → Int} {h d n : Nat} {z : Int} (hn : n % (2 * h) = 0) (hh : 0 < h) (hF : ∀ j, j < n → cg P (F j) (F' j)) (hG : ∀ t, t < h → cg P (G (t * d)) (z ^ t)) : ∀ j, j < n → cg P (spP F G h d P n j) (spZ F' h z j) := by
  intro j hj
  rw [spP_lt hj]
  have hb : ∀ a : Nat, a % (2 * h) = 0 → a < n → a + 2 * h ≤ n := fun a ha hlt => (blk_next (q := n / (2 * h)) ha (by have := Nat.div_add_mod n (2 * h); rw [hn, Nat.add_zero, Nat.mul_comm] at this; exact this.symm) hlt (by omega)).1
  obtain ⟨a, t, ha, ht, rfl | rfl⟩ := place j h hh
  · have hb2 := hb a ha (by omega)
    rw [(md_lo ha ht).1, if_pos ht, spZ_lo ha ht, show a + t + h = a + (h + t) by omega]
    exact (cg.md P _).trans ((hF _ (by omega)).add (hF _ (by omega)))
  · have hb2 := hb a ha (by omega)
    rw [(md_hi ha ht).1, if_neg (by omega), spZ_hi ha ht, show a + (h + t) - h = a + t by omega, show h + t - h = t by omega]
    refine (cg.md P _).trans (cg.mul ((cg.plus P _).trans ((hF _ (by omega)).sub (hF _ (by omega)))) (hG t ht))
theorem jnP_cg {P : Int} {F F' G : Nat → Int} {h d n : Nat} {z : Int} (hn : n % (2 * h) = 0) (hh : 0 < h) (hF : ∀ j, j < n → cg P (F j) (F' j)) (hG : ∀ t, t < h → cg P (G (t * d)) (z ^ t)) : ∀ j, j < n → cg P (jnP F G h d P n j) (jnZ F' h z j) := by
  intro j hj
  rw [jnP_lt hj]
  have hb : ∀ a : Nat, a % (2 * h) = 0 → a < n → a + 2 * h ≤ n := fun a ha hlt => (blk_next (q := n / (2 * h)) ha (by have := Nat.div_add_mod n (2 * h); rw [hn, Nat.add_zero, Nat.mul_comm] at this; exact this.symm) hlt (by omega)).1
  obtain ⟨a, t, ha, ht, rfl | rfl⟩ := place j h hh
  · have hb2 := hb a ha (by omega)
    rw [(md_lo ha ht).1, if_pos ht, jnZ_lo ha ht, show a + t + h = a + (h + t) by omega]
    exact (cg.md P _).trans ((hF _ (by omega)).add ((cg.md P _).trans ((hF _ (by omega)).mul (hG t ht))))
  · have hb2 := hb a ha (by omega)
    rw [(md_hi ha ht).1, if_neg (by omega), jnZ_hi ha ht, show a + (h + t) - h = a + t by omega, show h + t - h = t by omega]
    exact (cg.md P _).trans ((hF _ (by omega)).sub ((cg.md P _).trans ((hF _ (by omega)).mul (hG t ht))))
theorem spZ_cg {P : Int} {F F' : Nat → Int} {h n : Nat} {z : Int} (hn : n % (2 * h) = 0) (hh : 0 < h) (hF : ∀ j, j < n → cg P (F j) (F' j)) : ∀ j, j < n → cg P (spZ F h z j) (spZ F' h z j) := by
  intro j hj
  have hb : ∀ a : Nat, a % (2 * h) = 0 → a < n → a + 2 * h ≤ n := fun a ha hlt => (blk_next (q := n / (2 * h)) ha (by have := Nat.div_add_mod n (2 * h); rw [hn, Nat.add_zero, Nat.mul_comm] at this; exact this.symm) hlt (by omega)).1
  obtain ⟨a, t, ha, ht, rfl | rfl⟩ := place j h hh
  · have hb2 := hb a ha (by omega)
    rw [spZ_lo ha ht, spZ_lo ha ht]
    exact (hF _ (by omega)).add (hF _ (by omega))
  · have hb2 := hb a ha (by omega)
    rw [spZ_hi ha ht, spZ_hi ha ht]
    exact ((hF _ (by omega)).sub (hF _ (by omega))).mul cg.rf
theorem jnZ_cg {P : Int} {F F' : Nat → Int} {h n : Nat} {z : Int} (hn : n % (2 * h) = 0) (hh : 0 < h) (hF : ∀ j, j < n → cg P (F j) (F' j)) : ∀ j, j < n → cg P (jnZ F h z j) (jnZ F' h z j) := by
  intro j hj
  have hb : ∀ a : Nat, a % (2 * h) = 0 → a < n → a + 2 * h ≤ n := fun a ha hlt => (blk_next (q := n / (2 * h)) ha (by have := Nat.div_add_mod n (2 * h); rw [hn, Nat.add_zero, Nat.mul_comm] at this; exact this.symm) hlt (by omega)).1
  obtain ⟨a, t, ha, ht, rfl | rfl⟩ := place j h hh
  · have hb2 := hb a ha (by omega)
    rw [jnZ_lo ha ht, jnZ_lo ha ht]
    exact (hF _ (by omega)).add ((hF _ (by omega)).mul cg.rf)
  · have hb2 := hb a ha (by omega)
    rw [jnZ_hi ha ht, jnZ_hi ha ht]
    exact (hF _ (by omega)).sub ((hF _ (by omega)).mul cg.rf)
theorem lvl_mod {k v : Nat} (hk : k ≤ 9) (hv : v < k) : 2 ^ k % (2 * 2 ^ v) = 0 ∧ 0 < 2 ^ v ∧ 2 ^ v * (2 ^ k / (2 * 2 ^ v)) = 2 ^ k / 2 ∧ 2 * 2 ^ v = 2 ^ (v + 1) ∧ 0 < 2 ^ k / (2 * 2 ^ v) := by
  have : ∀ k : Nat, k < 10 → ∀ v : Nat, v < k → 2 ^ k % (2 * 2 ^ v) = 0 ∧ 0 < 2 ^ v ∧ 2 ^ v * (2 ^ k / (2 * 2 ^ v)) = 2 ^ k / 2 ∧ 2 * 2 ^ v = 2 ^ (v + 1) ∧ 0 < 2 ^ k / (2 * 2 ^ v) := by decide
  exact this k (by omega) v hv
/-- the level's root: w to the stride -/
def rtL (w : Int) (k v : Nat) : Int := w ^ (2 ^ k / (2 * 2 ^ v))
theorem rtL_h {P w : Int} {k v : Nat} (hk : k ≤ 9) (hv : v < k) (hw : cg P (w ^ (2 ^ k / 2)) (-1)) : cg P (rtL w k v ^ 2 ^ v) (-1) := by
  unfold rtL
  rw [← Int.pow_mul, Nat.mul_comm, (lvl_mod hk hv).2.2.1]
  exact hw
theorem rtL_G {P w : Int} {G : Nat → Int} {k v : Nat} (hk : k ≤ 9) (hv : v < k) (hG : ∀ j, j < 2 ^ k / 2 → cg P (G j) (w ^ j)) : ∀ t, t < 2 ^ v → cg P (G (t * (2 ^ k / (2 * 2 ^ v)))) (rtL w k v ^ t) := by
  intro t ht
  obtain ⟨h1, h2, h3, h4, h5⟩ := lvl_mod hk hv
  refine (hG _ ?_).trans (cg.of ?_)
  · rw [← h3]
    exact Nat.mul_lt_mul_of_pos_right ht h5
  · unfold rtL
    rw [← Int.pow_mul, Nat.mul_comm]
/-- n levels taken apart, purely -/
def fwZ (F : Nat → Int) (w : Int) (k : Nat) : Nat → Nat → Int
  | 0 => F
  | n + 1 => spZ (fwZ F w k n) (2 ^ (k - 1 - n)) (rtL w k (k - 1 - n))
theorem fwd_cg {P w : Int} {F F' G : Nat → Int} {k : Nat} (hk : k ≤ 9) (hF : ∀ j, j < 2 ^ k → cg P (F j) (F' j)) (hG : ∀ j, j < 2 ^ k / 2 → cg P (G j) (w ^ j)) : ∀ n, n ≤ k → ∀ j, j < 2 ^ k → cg P (fwd F G k P n j) (fwZ F' w k n j)
  | 0, _ => hF
  | n + 1, hn => spP_cg (lvl_mod hk (show k - 1 - n < k by omega)).1 (lvl_mod hk (show k - 1 - n < k by omega)).2.1 (fwd_cg hk hF hG n (by omega)) (rtL_G hk (by omega) hG)
theorem blk_in {i n N : Nat} (hN : N % n = 0) (hn : 0 < n) (hi : i < N) : i - i % n + n ≤ N := by
  obtain ⟨q, rfl⟩ : ∃ q, N = n * q := ⟨N / n, by have := Nat.div_add_mod N n; omega⟩
  have h1 := Nat.div_add_mod i n
  have h2 : i / n < q := Nat.div_lt_of_lt_mul hi
  have h3 : n * (i / n + 1) ≤ n * q := Nat.mul_le_mul_left n h2
  rw [Nat.mul_add, Nat.mul_one] at h3
  omega
theorem pow_dvd {k v : Nat} (hk : k ≤ 9) (hv : v ≤ k) : 2 ^ k % 2 ^ v = 0 := by
  have : ∀ k : Nat, k < 10 → ∀ v : Nat, v ≤ k → 2 ^ k % 2 ^ v = 0 := by decide
  exact this k (by omega) v hv
/-- the folding goes through the levels -/
theorem bc_fw {P w : Int} {F K : Nat → Int} {k : Nat} (hk : k ≤ 9) (hw : cg P (w ^ (2 ^ k / 2)) (-1)) : ∀ n, n ≤ k → ∀ j, j < 2 ^ k → cg P (bc (fwZ F w k n) (fwZ K w k n) (2 ^ (k - n)) j) (fwZ (bc F K (2 ^ k)) w k n j)
  | 0, _, j, _ => cg.rf
  | n + 1, hn, j, hj => by
    have hv : k - 1 - n < k := by omega
    obtain ⟨h1, h2, h3, h4, h5⟩ := lvl_mod hk hv
    have e1 : k - (n + 1) = k - 1 - n := by omega
    have e2 : 2 * 2 ^ (k - 1 - n) = 2 ^ (k - n) := by rw [h4]; congr 1; omega
    have ih := bc_fw (P := P) (F := F) (K := K) hk hw n (by omega)
    rw [e1]
    show cg P (bc (spZ (fwZ F w k n) (2 ^ (k - 1 - n)) (rtL w k (k - 1 - n))) (spZ (fwZ K w k n) (2 ^ (k - 1 - n)) (rtL w k (k - 1 - n))) (2 ^ (k - 1 - n)) j) (spZ (fwZ (bc F K (2 ^ k)) w k n) (2 ^ (k - 1 - n)) (rtL w k (k - 1 - n)) j)
    refine (bc_sp h2 (rtL_h hk hv hw) j).trans ?_
    rw [e2]
    exact spZ_cg h1 h2 ih j hj
theorem bwd_cg {P w y : Int} {X G C : Nat → Int} {k : Nat} (hk : k ≤ 9) (hwy : cg P (w * y) 1) (hG : ∀ j, j < 2 ^ k / 2 → cg P (G j) (y ^ j)) (hX : ∀ j, j < 2 ^ k → cg P (X j) (fwZ C w k k j)) : ∀ n, n ≤ k → ∀ j, j < 2 ^ k → cg P (bwd X G k P n j) (2 ^ n * fwZ C w k (k - n) j)
  | 0, _, j, hj => by
    rw [Nat.sub_zero, Int.pow_zero, Int.one_mul]
    exact hX j hj
  | n + 1, hn, j, hj => by
    have hv : n < k := by omega
    obtain ⟨h1, h2, h3, h4, h5⟩ := lvl_mod hk hv
    have ih := bwd_cg (G := G) hk hwy hG hX n (by omega)
    have e1 : k - n = (k - (n + 1)) + 1 := by omega
    have e2 : k - 1 - (k - (n + 1)) = n := by omega
    have hzy : cg P (rtL w k n * rtL y k n) 1 := by
      unfold rtL
      rw [← Int.mul_pow]
      exact (hwy.pow _).trans (cg.of Int.one_pow)
    show cg P (jnP (bwd X G k P n) G (2 ^ n) (2 ^ k / (2 * 2 ^ n)) P (2 ^ k) j) _
    refine (jnP_cg (F' := bwd X G k P n) h1 h2 (fun _ _ => cg.rf) (rtL_G hk hv hG) j hj).trans ?_
    rw [Int.pow_succ, Int.mul_comm ((2 : Int) ^ n) 2]
    refine jn_sp h2 hzy (2 ^ n) h1 (fun i hi => ?_) j hj
    have h9 := ih i hi
    rw [e1] at h9
    have e3 : fwZ C w k (k - (n + 1) + 1) = spZ (fwZ C w k (k - (n + 1))) (2 ^ n) (rtL w k n) := by
      show spZ _ (2 ^ (k - 1 - (k - (n + 1)))) (rtL w k (k - 1 - (k - (n + 1)))) = _
      rw [e2]
    rw [e3] at h9
    exact h9
theorem rpw_cg {G : Nat → Int} {w P : Int} {n : Nat} : ∀ j, j < n → cg P (rpw G w P n j) (w ^ j) := fun j hj => by
  unfold rpw
  rw [if_pos hj]
  exact cg.md P _
/-- what the folder computes is the round folding -/
theorem frm_cg {F1 F2 G : Nat → Int} {k P : Nat} (hk : k ≤ 9) (hw : cg P (frW k P ^ (2 ^ k / 2)) (-1)) (hy : cg P (frW k P * (frW k P ^ (P - 2) % (P : Int))) 1) (hi : cg P (2 ^ k * ((2 ^ k : Int) ^ (P - 2) % (P : Int))) 1) (hP : 0 < (P : Int)) : ∀ j, j < 2 ^ k → frm F1 F2 G k P j = bc F1 F2 (2 ^ k) j % (P : Int) := by
  intro j hj
  have hX : ∀ j, j < 2 ^ k → cg P (mlF (fwd F1 (rpw G (frW k P) P (2 ^ k / 2)) k P k) (fwd F2 (rpw G (frW k P) P (2 ^ k / 2)) k P k) P (2 ^ k) j) (fwZ (bc F1 F2 (2 ^ k)) (frW k P) k k j) := by
    intro j hj
    unfold mlF
    rw [if_pos hj]
    refine (cg.md _ _).trans ?_
    have a1 := fwd_cg (F' := F1) hk (fun _ _ => cg.rf) (rpw_cg (G := G) (w := frW k P) (P := P) (n := 2 ^ k / 2)) k (Nat.le_refl k) j hj
    have a2 := fwd_cg (F' := F2) hk (fun _ _ => cg.rf) (rpw_cg (G := G) (w := frW k P) (P := P) (n := 2 ^ k / 2)) k (Nat.le_refl k) j hj
    refine (a1.mul a2).trans ?_
    have a3 := bc_fw (P := P) (F := F1) (K := F2) hk hw k (Nat.le_refl k) j hj
    rw [Nat.sub_self, Nat.pow_zero, bc_1] at a3
    exact a3
  have hB := bwd_cg (G := rpw (rpw G (frW k P) P (2 ^ k / 2)) (frW k P ^ (P - 2) % (P : Int)) P (2 ^ k / 2)) hk hy rpw_cg hX k (Nat.le_refl k) j hj
  rw [Nat.sub_self] at hB
  show (if j < 2 ^ k then _ else _) = _
  rw [if_pos hj]
  have h9 := hB.mul (cg.rf (P := P) (a := (2 ^ k : Int) ^ (P - 2) % (P : Int)))
  refine Eq.trans h9 ?_
  have e : (2 ^ k : Int) * fwZ (bc F1 F2 (2 ^ k)) (frW k P) k 0 j * ((2 ^ k : Int) ^ (P - 2) % (P : Int)) = (2 ^ k : Int) * ((2 ^ k : Int) ^ (P - 2) % (P : Int)) * bc F1 F2 (2 ^ k) j := by
    show (2 ^ k : Int) * bc F1 F2 (2 ^ k) j * _ = _
    rw [Int.mul_assoc, Int.mul_comm (bc F1 F2 (2 ^ k) j), ← Int.mul_assoc]
  rw [e]
  refine Eq.trans (hi.mul cg.rf) ?_
  rw [Int.one_mul]
