/-! ===== hitting, commuting: both sides alike ===== -/
section
variable {A : Nat → Nat → Int} {n : Nat}
/-- the diagonal only falls -/
theorem mI.fall (hn : n ≤ 5) (h : ∀ k, k ≤ n → mI A n k) : ∀ k, k < n → ∀ i, k ≤ i → i < n → bm A k i i ≤ A i i * lm A k
  | 0, _, i, _, _ => by
    show A i i ≤ A i i * 1
    omega
  | k + 1, hk, i, hi, hin => by
    have ih := mI.fall hn h k (by omega) i (by omega) hin
    have h1 := h k (by omega)
    have h2 : 0 < bm A k k k := (h (k + 1) (by omega)).1
    have e2 := h1.2.1 i k (by omega) hin (by omega) (by omega) (by omega)
    have e3 := h1.2.1 k i (by omega) (by omega) (by omega) hin (by omega)
    have e4 := Int.mul_nonneg_of_nonpos_of_nonpos e2 e3
    have e5 := sylm A (k := k) (by omega) i i
    have e6 := Int.mul_le_mul_of_nonneg_right ih (Int.le_of_lt h2)
    have e7 : (bm A (k + 1) i i - A i i * bm A k k k) * lm A k ≤ 0 := by
      rw [Int.sub_mul, ← e5, Int.mul_right_comm (A i i)]
      omega
    have e8 := le0_of h1.1 e7
    show bm A (k + 1) i i ≤ A i i * bm A k k k
    omega
theorem mI.prod (hn : n ≤ 5) (h : ∀ k, k ≤ n → mI A n k) (hd : ∀ i, i < n → A i i ≤ 45) : ∀ k, k ≤ n → lm A k ≤ 45 ^ k
  | 0, _ => Int.le_refl _
  | k + 1, hk => by
    have ih := mI.prod hn h hd k (by omega)
    have e1 := mI.fall hn h k (by omega) k (Nat.le_refl _) (by omega)
    have e2 := Int.mul_le_mul_of_nonneg_right (hd k (by omega)) (Int.le_of_lt (h k (by omega)).1)
    show bm A k k k ≤ 45 ^ (k + 1)
    rw [Int.pow_succ]
    omega
end
/-- a column that is c times another -/
theorem dt_col {c : Int} : ∀ n (A B : Nat → Nat → Int) p, p < n → (∀ i j, i < n → j < n → B i j = if j = p then c * A i j else A i j) → dt n B = c * dt n A
  | 0, _, _, p, hp, _ => absurd hp (Nat.not_lt_zero _)
  | n + 1, A, B, p, hp, h => by
    have term : ∀ j, j < n + 1 → B 0 j * dt n (mnr B j) = c * (A 0 j * dt n (mnr A j)) := by
      intro j hj
      by_cases e : j = p
      · have e1 : dt n (mnr B j) = dt n (mnr A j) := by
          refine dt_cong n _ _ (fun i k hi hk => ?_)
          show B (i + 1) (if k < j then k else k + 1) = A (i + 1) (if k < j then k else k + 1)
          rw [h _ _ (by omega) (by split <;> omega), if_neg (by split <;> omega)]
        rw [e1, h 0 j (by omega) hj, if_pos e, Int.mul_assoc]
      · have e1 := dt_col (c := c) n (mnr A j) (mnr B j) (if p < j then p else p - 1) (by split <;> omega) (fun i k hi hk => by
          show B (i + 1) (if k < j then k else k + 1) = if k = (if p < j then p else p - 1) then c * A (i + 1) (if k < j then k else k + 1) else A (i + 1) (if k < j then k else k + 1)
          rw [h _ _ (by omega) (by split <;> omega)]
          by_cases e2 : (if k < j then k else k + 1) = p
          · have e3 : k = (if p < j then p else p - 1) := by revert e2; (repeat' split) <;> omega
            rw [if_pos e2, if_pos e3]
          · have e3 : ¬ k = (if p < j then p else p - 1) := by revert e2; (repeat' split) <;> omega
            rw [if_neg e2, if_neg e3])
        rw [e1, h 0 j (by omega) hj, if_neg e, ← Int.mul_assoc, Int.mul_comm (A 0 j) c, Int.mul_assoc]
    have key : ∀ k, k ≤ n + 1 → alS (fun j => B 0 j * dt n (mnr B j)) k = c * alS (fun j => A 0 j * dt n (mnr A j)) k := by
      intro k
      induction k with
      | zero => exact fun _ => (Int.mul_zero c).symm
      | succ k ih =>
        intro hk
        show alS (fun j => B 0 j * dt n (mnr B j)) k + (if k % 2 = 0 then B 0 k * dt n (mnr B k) else -(B 0 k * dt n (mnr B k))) = c * (alS (fun j => A 0 j * dt n (mnr A j)) k + (if k % 2 = 0 then A 0 k * dt n (mnr A k) else -(A 0 k * dt n (mnr A k))))
        rw [ih (by omega), term k (by omega), Int.mul_add]
        split
        · rfl
        · rw [Int.mul_neg]
    exact key (n + 1) (Nat.le_refl _)
theorem lm_col {c : Int} {n p : Nat} (hn : n ≤ 5) (hp : p < n) {A B : Nat → Nat → Int} (h : ∀ i j, i < n → j < n → B i j = if j = p then c * A i j else A i j) : lm B n = c * lm A n := by
  rw [lm_dt B hn, lm_dt A hn]
  refine dt_col n _ _ p hp (fun i j hi hj => ?_)
  show B (if i < n - 1 then i else n - 1) (if j < n - 1 then j else n - 1) = if j = p then c * A (if i < n - 1 then i else n - 1) (if j < n - 1 then j else n - 1) else A (if i < n - 1 then i else n - 1) (if j < n - 1 then j else n - 1)
  rw [show (if i < n - 1 then i else n - 1) = i by split <;> omega, show (if j < n - 1 then j else n - 1) = j by split <;> omega]
  exact h i j hi hj
section
variable {W : Nat → Nat} {n x T : Nat} {g : Nat → Int}
/-- being reached goes both ways -/
theorem rcm_sym (hW : gdW W n) {i j : Nat} (hi : i < n) (hj : j < n) (h : (rcm W n i).testBit j = true) : (rcm W n j).testBit i = true := by
  refine rcm_ind (W := W) (n := n) (x := i) (fun b => (rcm W n b).testBit i = true) (fun a b ha hb h1 h2 => ?_) hi rcm_self hj h
  have e1 := rcm_clo (W := W) hb hW.1
  have e2 : (rcm W n b).testBit a = true := e1 b a hb ha rcm_self (by rw [hW.2.2.1 b a hb ha]; exact h2)
  exact rcm_least e1 e2 h1
end

