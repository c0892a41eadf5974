/-! Whole numbers: roots, divisors. -/
theorem sq_mono {a b : Int} (ha : 0 ≤ a) (h : a ≤ b) : a * a ≤ b * b := Int.mul_le_mul h h ha (Int.le_trans ha h)
theorem sq_lt {a b : Int} (hb : 0 ≤ b) (h : a * a < b * b) : a < b := Int.not_le.mp fun q => absurd (sq_mono hb q) (Int.not_le.mpr h)
theorem sq_uni {a b n : Int} (ha : 0 ≤ a) (hb : 0 ≤ b) (h1 : a * a ≤ n) (h2 : n < (a + 1) * (a + 1)) (h3 : b * b ≤ n) (h4 : n < (b + 1) * (b + 1)) : a = b := by
  have q1 : a < b + 1 := sq_lt (by omega) (Int.lt_of_le_of_lt h1 h4)
  have q2 : b < a + 1 := sq_lt (by omega) (Int.lt_of_le_of_lt h3 h2)
  omega
/-- the root of n: the greatest whole number whose square isn't above it -/
noncomputable def isq (n : Int) : Int := Classical.epsilon fun r : Int => 0 ≤ r ∧ r * r ≤ n ∧ n < (r + 1) * (r + 1)
theorem isq_eq {r n : Int} (h0 : 0 ≤ r) (h1 : r * r ≤ n) (h2 : n < (r + 1) * (r + 1)) : isq n = r := by
  have h := Classical.epsilon_spec (p := fun r : Int => 0 ≤ r ∧ r * r ≤ n ∧ n < (r + 1) * (r + 1)) ⟨r, h0, h1, h2⟩
  exact sq_uni h.1 h0 h.2.1 h.2.2 h1 h2
theorem isq_ex (k : Nat) : ∃ r : Int, 0 ≤ r ∧ r * r ≤ k ∧ (k : Int) < (r + 1) * (r + 1) := by
  induction k with
  | zero => exact ⟨0, by decide, by decide, by decide⟩
  | succ k ih =>
    obtain ⟨r, h0, h1, h2⟩ := ih
    by_cases h : ((k + 1 : Nat) : Int) < (r + 1) * (r + 1)
    · exact ⟨r, h0, by omega, h⟩
    · refine ⟨r + 1, by omega, by omega, ?_⟩
      have e1 : (r + 1 + 1) * (r + 1 + 1) = (r + 1) * (r + 1) + 2 * r + 3 := by simp only [Int.add_mul, Int.mul_add]; omega
      omega
theorem isq_spec {n : Int} (h : 0 ≤ n) : 0 ≤ isq n ∧ isq n * isq n ≤ n ∧ n < (isq n + 1) * (isq n + 1) := by
  obtain ⟨r, h0, h1, h2⟩ := isq_ex n.toNat
  rw [Int.toNat_of_nonneg h] at h1 h2
  rw [isq_eq h0 h1 h2]
  exact ⟨h0, h1, h2⟩
theorem isq_le {n b : Int} (h : 0 ≤ n) (hb : 0 ≤ b) (hn : n < (b + 1) * (b + 1)) : isq n ≤ b := by
  have h1 := isq_spec h
  have := sq_lt (a := isq n) (b := b + 1) (by omega) (Int.lt_of_le_of_lt h1.2.1 hn)
  omega
/-- Euclid's steps -/
theorem gcd_step (a b : Nat) : Nat.gcd a b = Nat.gcd b (a % b) := by rw [Nat.gcd_comm a b, Nat.gcd_rec b a, Nat.gcd_comm]
theorem tmod_nat (a b : Nat) : ((a : Int).tmod b) = ((a % b : Nat) : Int) := by rw [Int.ofNat_tmod]
theorem tdiv_nat (a b : Nat) : ((a : Int).tdiv b) = ((a / b : Nat) : Int) := by rw [Int.ofNat_tdiv]
/-- two steps halve the smaller number -/
theorem mod_half {a b : Nat} (h : b ≤ a) (hb : 0 < b) : a % b ≤ a / 2 := by
  have h1 := Nat.mod_lt a hb
  rcases Nat.lt_or_ge (a / 2) b with q | q
  · have h2 : a % b = a - b := by
      rw [Nat.mod_eq_sub_mod h, Nat.mod_eq_of_lt (by omega)]
    omega
  · omega
