/-! ===== the reference: equations ===== -/
/-- the first of n that p takes, upwards -/
def ascL (p : Nat → Bool) : Nat → List Nat
  | 0 => []
  | x + 1 => if p x = true then ascL p x ++ [x] else ascL p x
def lpl (W : Nat → Nat) (n x y : Nat) : Int := if y = x then (degN W x n : Nat) else -((W (x * 6 + y) : Nat) : Int)
def rMt (W : Nat → Nat) (n : Nat) (l : List Nat) (g : Nat → Int) (z : Int) : Nat → Nat → Int := fun i j => if (j : Int) = z then g (l.getD i 0) else lpl W n (l.getD i 0) (l.getD j 0)
theorem asc_le (p : Nat → Bool) : ∀ n, (ascL p n).length ≤ n
  | 0 => Nat.le_refl _
  | n + 1 => by
    have := asc_le p n
    rw [ascL]
    split
    · rw [List.length_append]
      simp
      omega
    · omega
theorem asc_mono (p : Nat → Bool) {x : Nat} : ∀ n, x ≤ n → (ascL p x).length ≤ (ascL p n).length
  | 0, h => by rw [show x = 0 by omega]; exact Nat.le_refl _
  | n + 1, h => by
    by_cases c : x = n + 1
    · rw [c]; exact Nat.le_refl _
    · have := asc_mono p (x := x) n (by omega)
      rw [ascL]
      split
      · rw [List.length_append]
        omega
      · omega
theorem asc_lt (p : Nat → Bool) {x n : Nat} (h : x < n) (hp : p x = true) : (ascL p x).length < (ascL p n).length := by
  have h1 := asc_mono p (x := x + 1) n h
  rw [ascL, if_pos hp, List.length_append] at h1
  simp at h1
  omega
theorem asc_inj (p : Nat → Bool) {x y : Nat} (hx : p x = true) (hy : p y = true) (h : (ascL p x).length = (ascL p y).length) : x = y := by
  rcases Nat.lt_trichotomy x y with q | q | q
  · have := asc_lt p q hx
    omega
  · exact q
  · have := asc_lt p q hy
    omega
theorem asc_get (p : Nat → Bool) {x : Nat} (hp : p x = true) : ∀ n, x < n → (ascL p n).getD (ascL p x).length 0 = x
  | 0, h => by omega
  | n + 1, h => by
    by_cases c : x = n
    · subst c
      rw [ascL, if_pos hp]
      simp
    · have h1 := asc_get p hp n (by omega)
      have h2 := asc_lt p (show x < n by omega) hp
      rw [ascL]
      split
      · have e : (ascL p n ++ [n]).getD (ascL p x).length 0 = (ascL p n).getD (ascL p x).length 0 := by simp [List.getD, List.getElem?_append_left h2]
        exact e.trans h1
      · exact h1
theorem asc_sur (p : Nat → Bool) : ∀ n i, i < (ascL p n).length → ∃ x, x < n ∧ p x = true ∧ (ascL p x).length = i
  | 0, i, h => by simp [ascL] at h
  | n + 1, i, h => by
    rw [ascL] at h
    split at h
    · next c =>
      by_cases q : i < (ascL p n).length
      · obtain ⟨x, h1, h2, h3⟩ := asc_sur p n i q
        exact ⟨x, by omega, h2, h3⟩
      · rw [List.length_append] at h
        simp at h
        exact ⟨n, by omega, c, by omega⟩
    · obtain ⟨x, h1, h2, h3⟩ := asc_sur p n i h
      exact ⟨x, by omega, h2, h3⟩
theorem m7 {i j i2 j2 : Nat} (h1 : j < 7) (h2 : j2 < 7) : 7 * i + j = 7 * i2 + j2 ↔ i = i2 ∧ j = j2 := by omega
/-- what the unknown ones are -/
def unP (A T : Nat) : Nat → Bool := fun x => A.testBit x && !T.testBit x
