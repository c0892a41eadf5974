/-! Loops as functions: what the document's terms are. -/
/-- op over f lo, f (lo + 1), .., n of them, from a on -/
def itF (op : Int → Int → Int) (f : Int → Int) (a lo : Int) : Nat → Int
  | 0 => a
  | n + 1 => op (itF op f a lo n) (f (lo + n))
theorem itF_s (op : Int → Int → Int) (f : Int → Int) (a lo : Int) (n : Nat) : itF op f a lo (n + 1) = op (itF op f a lo n) (f (lo + n)) := rfl
theorem itF_congr {op : Int → Int → Int} {f f' : Int → Int} {a lo : Int} (n : Nat) (h : ∀ j : Int, lo ≤ j → j < lo + n → f j = f' j) : itF op f a lo n = itF op f' a lo n := by
  induction n with
  | zero => rfl
  | succ n ih => rw [itF_s, itF_s, ih (fun j h1 h2 => h j h1 (by omega)), h (lo + n) (by omega) (by omega)]
/-- a bound that the start and all f keep -/
theorem itF_rg {op : Int → Int → Int} {f : Int → Int} {a lo : Int} {P : Int → Prop} (n : Nat) (h0 : P a) (hs : ∀ x j : Int, P x → lo ≤ j → j < lo + n → P (op x (f j))) : P (itF op f a lo n) := by
  induction n with
  | zero => exact h0
  | succ n ih => exact hs _ _ (ih (fun x j hx h1 h2 => hs x j hx h1 (by omega))) (by omega) (by omega)
theorem itF_max {f : Int → Int} {a lo b : Int} (n : Nat) (h0 : 0 ≤ a ∧ a ≤ b) (h : ∀ j : Int, lo ≤ j → j < lo + n → f j ≤ b) : 0 ≤ itF max f a lo n ∧ itF max f a lo n ≤ b :=
  itF_rg (P := fun x => 0 ≤ x ∧ x ≤ b) n h0 (fun x j hx h1 h2 => by have := h j h1 h2; omega)
theorem itF_min {f : Int → Int} {a lo b c : Int} (n : Nat) (h0 : c ≤ a ∧ a ≤ b) (h : ∀ j : Int, lo ≤ j → j < lo + n → c ≤ f j) : c ≤ itF min f a lo n ∧ itF min f a lo n ≤ b :=
  itF_rg (P := fun x => c ≤ x ∧ x ≤ b) n h0 (fun x j hx h1 h2 => by have := h j h1 h2; omega)
/-- a count: how many of the n places from lo on -/
def cnF (P : Int → Bool) (lo : Int) (n : Nat) : Int := itF (fun a b => a + b) (fun j => if P j then 1 else 0) 0 lo n
theorem cnF_s (P : Int → Bool) (lo : Int) (n : Nat) : cnF P lo (n + 1) = cnF P lo n + if P (lo + n) then 1 else 0 := rfl
theorem cnF_rg (P : Int → Bool) (lo : Int) (n : Nat) : 0 ≤ cnF P lo n ∧ cnF P lo n ≤ n := by
  induction n with
  | zero => exact ⟨Int.le_refl _, Int.le_refl _⟩
  | succ n ih => rw [cnF_s]; split <;> omega
/-- HOLLOW: places from n - 1 down that reach t -/
def hoF (r : Int → Int) (t : Int) : Nat → Int
  | 0 => 0
  | n + 1 => if t ≤ r n then 1 + hoF r t n else 0
theorem hoF_rg (r : Int → Int) (t : Int) (n : Nat) : 0 ≤ hoF r t n ∧ hoF r t n ≤ n := by
  induction n with
  | zero => exact ⟨Int.le_refl _, Int.le_refl _⟩
  | succ n ih => rw [hoF]; split <;> omega
/-- the least radius of places p .. p + n -/
def lmF (r : Int → Int) (p : Int) (n : Nat) : Int := itF min r (r p) (p + 1) n
theorem lmF_s (r : Int → Int) (p : Int) (n : Nat) : lmF r p (n + 1) = min (lmF r p n) (r (p + 1 + n)) := rfl
/-- the next held place, n places looked at -/
def nhF (r : Int → Int) (span p : Int) : Nat → Int
  | 0 => p + 1
  | n + 1 => if (n + 1) * span ≤ lmF r p (n + 1) then p + 1 + n else nhF r span p n
theorem nhF_no {r : Int → Int} {span p : Int} (hs : 0 ≤ span) {n : Nat} (h : ¬ ((n : Int) + 1) * span ≤ lmF r p (n + 1)) (m : Nat) : nhF r span p (n + 1 + m) = nhF r span p n ∧ ¬ ((n : Int) + 1 + m) * span ≤ lmF r p (n + 1 + m) := by
  induction m with
  | zero => exact ⟨by rw [Nat.add_zero, nhF, if_neg h], by simpa using h⟩
  | succ m ih =>
    have h2 : ¬ ((n : Int) + 1 + (m + 1 : Nat)) * span ≤ lmF r p (n + 1 + (m + 1)) := by
      intro q
      refine ih.2 ?_
      have e1 : lmF r p (n + 1 + (m + 1)) ≤ lmF r p (n + 1 + m) := by
        rw [show n + 1 + (m + 1) = (n + 1 + m) + 1 by omega, lmF_s]
        omega
      have e2 : ((n : Int) + 1 + m) * span ≤ ((n : Int) + 1 + (m + 1 : Nat)) * span := Int.mul_le_mul_of_nonneg_right (by omega) hs
      omega
    refine ⟨?_, h2⟩
    rw [show n + 1 + (m + 1) = (n + 1 + m) + 1 by omega, nhF, if_neg ?_, ih.1]
    rw [show ((n + 1 + m : Nat) : Int) + 1 = (n : Int) + 1 + (m + 1 : Nat) by omega]
    exact h2
theorem nhF_rg (r : Int → Int) (span p : Int) (n : Nat) : p + 1 ≤ nhF r span p n ∧ nhF r span p n ≤ p + 1 + n := by
  induction n with
  | zero => exact ⟨Int.le_refl _, by show p + 1 ≤ _; omega⟩
  | succ n ih => rw [nhF]; split <;> omega
