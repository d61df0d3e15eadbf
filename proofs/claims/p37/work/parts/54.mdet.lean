/-! ===== the reference: determinants ===== -/
def swA (A : Nat → Nat → Int) (k r : Nat) : Nat → Nat → Int := fun i => if i = k then A r else if i = r then A k else A i
def elA (A : Nat → Nat → Int) (k : Nat) (p : Int) : Nat → Nat → Int := fun i j => if k < i ∧ k < j then (A i j * A k k - A i k * A k j).tdiv p else A i j
/-- the row of the pivot -/
def pvR (A : Nat → Nat → Int) (n k : Nat) : Nat := k + fstN (fun t => decide (A (k + t) k ≠ 0)) (n - k)
theorem pvR_is {A : Nat → Nat → Int} {n k r : Nat} (h1 : k ≤ r) (h2 : r ≤ n) (h3 : ∀ t, k ≤ t → t < r → A t k = 0) (h4 : r = n ∨ A r k ≠ 0) : pvR A n k = r := by
  unfold pvR
  rw [fstN_is (k := r - k) (by omega) (fun j hj => decide_eq_false (fun z => z (h3 _ (by omega) (by omega)))) ?_]
  · omega
  · rcases h4 with h4 | h4
    · exact Or.inl (by omega)
    · right
      rw [show k + (r - k) = r by omega]
      exact decide_eq_true h4
def dtS (n : Nat) : Nat → Nat → (Nat → Nat → Int) → Int → Int → Int
  | 0, _, _, s, p => s * p
  | f + 1, k, A, s, p => if pvR A n k < n then dtS n f (k + 1) (elA (swA A k (pvR A n k)) k p) (if pvR A n k = k then s else -s) (swA A k (pvR A n k) k k) else 0
/-- all that is reckoned lies among the longs -/
def okDt (n : Nat) : Nat → Nat → (Nat → Nat → Int) → Int → Prop
  | 0, _, _, _ => True
  | f + 1, k, A, p => (∀ r, k ≤ r → r < n → inL (A r k)) ∧ (pvR A n k < n → (∀ i j, k < i → i < n → k < j → j < n → inL (swA A k (pvR A n k) i j * swA A k (pvR A n k) k k - swA A k (pvR A n k) i k * swA A k (pvR A n k) k j)) ∧ okDt n f (k + 1) (elA (swA A k (pvR A n k)) k p) (swA A k (pvR A n k) k k))
theorem m6 {i j i2 j2 : Nat} (h1 : j < 6) (h2 : j2 < 6) : 6 * i + j = 6 * i2 + j2 ↔ i = i2 ∧ j = j2 := by omega
