/-! ===== fractions: both sides alike ===== -/
theorem rd_mul {g a b : Int} (hg : 0 < g) (hb : 0 < b) : rdA (g * a) (g * b) = rdA a b ∧ rdB (g * a) (g * b) = rdB a b := by
  have e : ((Int.gcd (g * a) (g * b) : Nat) : Int) = g * (Int.gcd a b : Nat) := by
    rw [Int.gcd_mul_left, Int.natCast_mul]
    congr 1
    omega
  unfold rdA rdB
  rw [e, Int.mul_tdiv_mul_of_pos _ _ hg, Int.mul_tdiv_mul_of_pos _ _ hg]
  exact ⟨rfl, rfl⟩
/-- equal crosswise: the same in lowest terms -/
theorem rd_cross {a b c d : Int} (hb : 0 < b) (hd : 0 < d) (h : a * d = c * b) : rdA a b = rdA c d ∧ rdB a b = rdB c d := by
  have e1 := rd_mul (a := a) hd hb
  have e2 := rd_mul (a := c) hb hd
  rw [Int.mul_comm d a, h, Int.mul_comm c b, Int.mul_comm d b] at e1
  exact ⟨e1.1.symm.trans e2.1, e1.2.symm.trans e2.2⟩
theorem rd_fact {n d : Int} (hd : 0 < d) : 0 < rdB n d ∧ rdB n d ≤ d ∧ (rdA n d).natAbs ≤ n.natAbs ∧ n = rdA n d * (Int.gcd n d : Nat) ∧ d = rdB n d * (Int.gcd n d : Nat) ∧ (0 : Int) < (Int.gcd n d : Nat) := by
  have hg : 0 < Int.gcd n d := Int.gcd_pos_of_ne_zero_right n (by omega)
  have e1 : rdA n d * (Int.gcd n d : Nat) = n := Int.tdiv_mul_cancel (Int.gcd_dvd_left ..)
  have e2 : rdB n d * (Int.gcd n d : Nat) = d := Int.tdiv_mul_cancel (Int.gcd_dvd_right ..)
  have hg' : (0 : Int) < (Int.gcd n d : Nat) := by omega
  have e3 : 0 < rdB n d := gt0_of hg' (by omega)
  refine ⟨e3, ?_, ?_, e1.symm, e2.symm, hg'⟩
  · have := Int.mul_le_mul_of_nonneg_left (show (1 : Int) ≤ (Int.gcd n d : Nat) by omega) (Int.le_of_lt e3)
    omega
  · have e4 := congrArg Int.natAbs e1
    rw [Int.natAbs_mul] at e4
    have e5 := Nat.mul_le_mul_left (rdA n d).natAbs (show 1 ≤ ((Int.gcd n d : Nat) : Int).natAbs by omega)
    omega
section
variable {W : Nat → Nat} {n i j : Nat} {g : Nat → Int}
theorem stG_45 (hW : gdW W n) : ∀ k, k < n → (stG W n k).natAbs ≤ 45 := by
  intro k hk
  have := deg_le hW.1 hk hW.2.1 hW.2.2.2
  unfold stG
  omega
theorem tdiv_abs (a b : Int) : (a.tdiv b).natAbs ≤ a.natAbs := by
  rw [Int.natAbs_tdiv]
  exact Nat.div_le_self _ _
theorem mul_abs {a b : Int} {x y : Nat} (ha : a.natAbs ≤ x) (hb : b.natAbs ≤ y) : (a * b).natAbs ≤ x * y := by
  rw [Int.natAbs_mul]
  exact Nat.mul_le_mul ha hb
theorem sN_ge {f : Nat → Nat} {k : Nat} : ∀ c, k < c → f k ≤ sN f c
  | 0, h => by omega
  | c + 1, h => by
    rw [sN]
    by_cases e : k = c
    · rw [e]
      omega
    · have := sN_ge (f := f) (k := k) c (by omega)
      omega
end

