/-! ===== hitting, commuting: both sides alike ===== -/
section
variable {A : Nat → Nat → Int} {n : Nat}
/-- the diagonal only falls -/
theorem mI.fall (hn : n ≤ 5) (h : ∀ k, k ≤ n → mI A n k) : ∀ k, k < n → ∀ i, k ≤ i → i < n → bm A k i i ≤ A i i * lm A k
  | 0, _, i, _, _ => by
    show A i i ≤ A i i * 1
    omega
  | k + 1, hk, i, hi, hin => by
    have ih := mI.fall hn h k (by omega) i (by omega) hin
    have h1 := h k (by omega)
    have h2 : 0 < bm A k k k := (h (k + 1) (by omega)).1
    have e2 := h1.2.1 i k (by omega) hin (by omega) (by omega) (by omega)
    have e3 := h1.2.1 k i (by omega) (by omega) (by omega) hin (by omega)
    have e4 := Int.mul_nonneg_of_nonpos_of_nonpos e2 e3
    have e5 := sylm A (k := k) (by omega) i i
    have e6 := Int.mul_le_mul_of_nonneg_right ih (Int.le_of_lt h2)
    have e7 : (bm A (k + 1) i i - A i i * bm A k k k) * lm A k ≤ 0 := by
      rw [Int.sub_mul, ← e5, Int.mul_right_comm (A i i)]
      omega
    have e8 := le0_of h1.1 e7
    show bm A (k + 1) i i ≤ A i i * bm A k k k
    omega
theorem mI.prod (hn : n ≤ 5) (h : ∀ k, k ≤ n → mI A n k) (hd : ∀ i, i < n → A i i ≤ 45) : ∀ k, k ≤ n → lm A k ≤ 45 ^ k
  | 0, _ => Int.le_refl _
  | k + 1, hk => by
    have ih := mI.prod hn h hd k (by omega)
    have e1 := mI.fall hn h k (by omega) k (Nat.le_refl _) (by omega)
    have e2 := Int.mul_le_mul_of_nonneg_right (hd k (by omega)) (Int.le_of_lt (h k (by omega)).1)
    show bm A k k k ≤ 45 ^ (k + 1)
    rw [Int.pow_succ]
    omega
end
/-- a column that is c times another -/
theorem dt_col {c : Int} : ∀ n (A B : Nat → Nat → Int) p, p < n → (∀ i j, i < n → j < n → B i j = if j = p then c * A i j else A i j) → dt n B = c * dt n A
  | 0, _, _, p, hp, _ => absurd hp (Nat.not_lt_zero _)
  | n + 1, A, B, p, hp, h => by
    have term : ∀ j, j < n + 1 → B 0 j * dt n (mnr B j) = c * (A 0 j * dt n (mnr A j)) := by
      intro j hj
      by_cases e : j = p
      · have e1 : dt n (mnr B j) = dt n (mnr A j) := by
          refine dt_cong n _ _ (fun i k hi hk => ?_)
          show B (i + 1) (if k < j then k else k + 1) = A (i + 1) (if k < j then k else k + 1)
          rw [h _ _ (by omega) (by split <;> omega), if_neg (by split <;> omega)]
        rw [e1, h 0 j (by omega) hj, if_pos e, Int.mul_assoc]
      · have e1 := dt_col (c := c) n (mnr A j) (mnr B j) (if p < j then p else p - 1) (by split <;> omega) (fun i k hi hk => by
          show B (i + 1) (if k < j then k else k + 1) = if k = (if p < j then p else p - 1) then c * A (i + 1) (if k < j then k else k + 1) else A (i + 1) (if k < j then k else k + 1)
          rw [h _ _ (by omega) (by split <;> omega)]
          by_cases e2 : (if k < j then k else k + 1) = p
          · have e3 : k = (if p < j then p else p - 1) := by revert e2; (repeat' split) <;> omega
            rw [if_pos e2, if_pos e3]
          · have e3 : ¬ k = (if p < j then p else p - 1) := by revert e2; (repeat' split) <;> omega
            rw [if_neg e2, if_neg e3])
        rw [e1, h 0 j (by omega) hj, if_neg e, ← Int.mul_assoc, Int.mul_comm (A 0 j) c, Int.mul_assoc]
    have key : ∀ k, k ≤ n + 1 → alS (fun j => B 0 j * dt n (mnr B j)) k = c * alS (fun j => A 0 j * dt n (mnr A j)) k := by
      intro k
      induction k with
      | zero => exact fun _ => (Int.mul_zero c).symm
      | succ k ih =>
        intro hk
        show alS (fun j => B 0 j * dt n (mnr B j)) k + (if k % 2 = 0 then B 0 k * dt n (mnr B k) else -(B 0 k * dt n (mnr B k))) = c * (alS (fun j => A 0 j * dt n (mnr A j)) k + (if k % 2 = 0 then A 0 k * dt n (mnr A k) else -(A 0 k * dt n (mnr A k))))
        rw [ih (by omega), term k (by omega), Int.mul_add]
        split
        · rfl
        · rw [Int.mul_neg]
    exact key (n + 1) (Nat.le_refl _)
theorem lm_col {c : Int} {n p : Nat} (hn : n ≤ 5) (hp : p < n) {A B : Nat → Nat → Int} (h : ∀ i j, i < n → j < n → B i j = if j = p then c * A i j else A i j) : lm B n = c * lm A n := by
  rw [lm_dt B hn, lm_dt A hn]
  refine dt_col n _ _ p hp (fun i j hi hj => ?_)
  show B (if i < n - 1 then i else n - 1) (if j < n - 1 then j else n - 1) = if j = p then c * A (if i < n - 1 then i else n - 1) (if j < n - 1 then j else n - 1) else A (if i < n - 1 then i else n - 1) (if j < n - 1 then j else n - 1)
  rw [show (if i < n - 1 then i else n - 1) = i by split <;> omega, show (if j < n - 1 then j else n - 1) = j by split <;> omega]
  exact h i j hi hj
section
variable {W : Nat → Nat} {n x T : Nat} {g : Nat → Int}
/-- small gains: a small numerator -/
theorem mnN_45 (hW : gdW W n) (hg : ∀ k, k < n → (g k).natAbs ≤ 45) (hx : x < n) (hT : T.testBit x = false) (ht : ∃ t, t < n ∧ (rcm W n x).testBit t = true ∧ T.testBit t = true) : (mnN W n T x g).natAbs ≤ 2480058000 := by
  have hk := lkq_of (x := x) ht
  have hm := hk.five hW.1
  have hq := unP_self (W := W) (n := n) hT
  have r0 := mean_ref (g := g) hW (fun k hk => by have := hg k hk; omega) hx hq hm (Or.inl rfl)
  have r1 := mean_ref (g := fun k => 99 * g k) hW (fun k hk => by
    have := hg k hk
    show (99 * g k).natAbs ≤ 4455
    omega) hx hq hm (Or.inl rfl)
  have e0 : mnN W n T x g = lm (rMt W n (ascL (unP (rcm W n x) T) n) g (ascL (unP (rcm W n x) T) x).length) (ascL (unP (rcm W n x) T) n).length := r0.2.1
  have e1 := lm_col (c := 99) (A := rMt W n (ascL (unP (rcm W n x) T) n) g (ascL (unP (rcm W n x) T) x).length) (B := rMt W n (ascL (unP (rcm W n x) T) n) (fun k => 99 * g k) (ascL (unP (rcm W n x) T) x).length) hm (asc_lt _ hx hq) (fun i j _ _ => by
    unfold rMt
    by_cases c : j = (ascL (unP (rcm W n x) T) x).length
    · rw [if_pos c, if_pos (by omega), if_pos (by omega)]
    · rw [if_neg c, if_neg (by omega), if_neg (by omega)])
  have e2 := r1.2.2
  rw [e1, ← e0] at e2
  have e3 : ∀ k, k ≤ 5 → Gb k ≤ 245525742000 := by decide
  have e4 := e3 _ hm
  omega
theorem mnD_45 (hW : gdW W n) (hx : x < n) (hT : T.testBit x = false) (ht : ∃ t, t < n ∧ (rcm W n x).testBit t = true ∧ T.testBit t = true) : 0 < mnD W n T x g ∧ mnD W n T x g ≤ 184528125 := by
  have hk := lkq_of (x := x) ht
  have hm := hk.five hW.1
  have hq := unP_self (W := W) (n := n) hT
  have r2 := mean_ref (g := fun _ => 0) hW (fun k hk => Nat.zero_le _) hx hq hm (z := -1) (Or.inr rfl)
  have hS : ∀ u, u < n → (dif (rch W n x) T).testBit u = unP (rcm W n x) T u := fun u _ => by
    have hn6 := hW.1
    rw [rch_rcm hx hW.1]
    exact unP_bit (rcm_lt (by omega) hW.1) u
  have hs := unk_enu hS hx hq
  have hlen := unk_len hS hx hq
  have hA : ∀ i j, i < (ascL (unP (rcm W n x) T) n).length → j < (ascL (unP (rcm W n x) T) n).length → aug W n (fun _ => 0) (unkL (dif (rch W n x) T) x n) i j = lapM W n (fun i => (unkL (dif (rch W n x) T) x n).getD i 0) i j := by
    intro i j hi hj
    unfold aug lapM
    rw [if_neg (by omega)]
  have hp := mean_piv (g := fun _ => 0) hW.w3 hx hS hq hk
  have hI : ∀ k, k ≤ (ascL (unP (rcm W n x) T) n).length → mI (aug W n (fun _ => 0) (unkL (dif (rch W n x) T) x n)) (ascL (unP (rcm W n x) T) n).length k := fun k hk => mI.some hm (lap_mI hs hW.2.1 hA) k hk (fun t ht => by
    have := hp (t + 1) (by omega)
    show lm (aug W n (fun _ => 0) (unkL (dif (rch W n x) T) x n)) (t + 1) ≠ 0
    omega)
  have e1 := mI.prod hm hI (fun i hi => by
    rw [hA i i hi hi, lapM, if_pos rfl]
    exact Int.ofNat_le.mpr (deg_le hW.1 (hs.1 i hi) hW.2.1 hW.2.2.2)) _ (Nat.le_refl _)
  rw [mean_den hx hS hq hm] at e1
  have e2 : mnD W n T x g = lm (rMt W n (ascL (unP (rcm W n x) T) n) (fun _ => 0) (-1)) (ascL (unP (rcm W n x) T) n).length := by
    have e3 := dtS_of (n := (ascL (unP (rcm W n x) T) n).length) hm (rMt W n (ascL (unP (rcm W n x) T) n) g (-1))
    have e4 : mnD W n T x g = lm (rMt W n (ascL (unP (rcm W n x) T) n) g (-1)) (ascL (unP (rcm W n x) T) n).length := e3
    rw [e4]
    refine lm_cong hm (fun i j _ _ => ?_)
    unfold rMt
    rw [if_neg (by omega), if_neg (by omega)]
  have h45 : ∀ k, k ≤ 5 → (45 : Int) ^ k ≤ 184528125 := by decide
  have := h45 _ hm
  rw [e2]
  refine ⟨?_, by omega⟩
  rw [← mean_den (S := dif (rch W n x) T) hx hS hq hm]
  exact hp _ (Nat.le_refl _)
/-- being reached goes both ways -/
theorem rcm_sym (hW : gdW W n) {i j : Nat} (hi : i < n) (hj : j < n) (h : (rcm W n i).testBit j = true) : (rcm W n j).testBit i = true := by
  refine rcm_ind (W := W) (n := n) (x := i) (fun b => (rcm W n b).testBit i = true) (fun a b ha hb h1 h2 => ?_) hi rcm_self hj h
  have e1 := rcm_clo (W := W) hb hW.1
  have e2 : (rcm W n b).testBit a = true := e1 b a hb ha rcm_self (by rw [hW.2.2.1 b a hb ha]; exact h2)
  exact rcm_least e1 e2 h1
end

