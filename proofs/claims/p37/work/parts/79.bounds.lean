/-! ===== how large a determinant grows ===== -/
/-- the row and column taken away: the first row, column c -/
def mnr (A : Nat → Nat → Int) (c : Nat) : Nat → Nat → Int := fun i j => A (i + 1) (if j < c then j else j + 1)
def sumTo (g : Nat → Nat) : Nat → Nat
  | 0 => 0
  | n + 1 => sumTo g n + g n
/-- the alternating sum of the first row -/
def alS (f : Nat → Int) : Nat → Int
  | 0 => 0
  | n + 1 => alS f n + (if n % 2 = 0 then f n else -f n)
def dt : Nat → (Nat → Nat → Int) → Int
  | 0, _ => 1
  | n + 1, A => alS (fun c => A 0 c * dt n (mnr A c)) (n + 1)
theorem alS_le {f : Nat → Int} {g : Nat → Nat} : ∀ n, (∀ j, j < n → (f j).natAbs ≤ g j) → (alS f n).natAbs ≤ sumTo g n
  | 0, _ => Nat.le_refl _
  | n + 1, h => by
    have e1 := alS_le n (fun j hj => h j (by omega))
    have e2 := h n (by omega)
    show (alS f n + (if n % 2 = 0 then f n else -f n)).natAbs ≤ sumTo g n + g n
    split <;> omega
def Fb : Nat → Nat
  | 0 => 1
  | n + 1 => (45 + 9 * n) * Fb n
theorem sum_big {x : Nat → Int} {c : Nat} {K : Nat} : ∀ n, (∀ j, j < n → (x j).natAbs ≤ if j = c then 45 else 9) → sumTo (fun j => (x j).natAbs * K) n ≤ (9 * n + (if c < n then 36 else 0)) * K
  | 0, _ => Nat.zero_le _
  | n + 1, h => by
    have e1 := sum_big (K := K) n (fun j hj => h j (by omega))
    have e2 := h n (by omega)
    show sumTo (fun j => (x j).natAbs * K) n + (x n).natAbs * K ≤ _
    refine Nat.le_trans (Nat.add_le_add e1 (Nat.mul_le_mul_right K e2)) ?_
    rw [← Nat.add_mul]
    refine Nat.mul_le_mul_right K ?_
    split <;> split <;> split <;> omega
/-- one entry of a row at most 45, the others at most 9 -/
def rowB (x : Nat → Int) (n : Nat) : Prop := ∃ c, ∀ j, j < n → (x j).natAbs ≤ if j = c then 45 else 9
theorem rowB_mnr {A : Nat → Nat → Int} {n i c : Nat} (h : rowB (A (i + 1)) (n + 1)) : rowB (mnr A c i) n := by
  obtain ⟨b, hb⟩ := h
  refine ⟨if b < c then b else if b = c then n else b - 1, fun j hj => ?_⟩
  have e := hb (if j < c then j else j + 1) (by split <;> omega)
  show (A (i + 1) (if j < c then j else j + 1)).natAbs ≤ _
  refine Nat.le_trans e ?_
  (repeat' split) <;> omega
theorem dt_F : ∀ n (A : Nat → Nat → Int), (∀ i, i < n → rowB (A i) n) → (dt n A).natAbs ≤ Fb n
  | 0, _, _ => Nat.le_refl _
  | n + 1, A, h => by
    obtain ⟨c, hc⟩ := h 0 (by omega)
    refine Nat.le_trans (alS_le (g := fun j => (A 0 j).natAbs * Fb n) (n + 1) (fun j _ => ?_)) ?_
    · rw [Int.natAbs_mul]
      exact Nat.mul_le_mul_left _ (dt_F n _ (fun i hi => rowB_mnr (h (i + 1) (by omega))))
    · refine Nat.le_trans (sum_big (x := A 0) (c := c) (n + 1) hc) ?_
      show _ ≤ (45 + 9 * n) * Fb n
      refine Nat.mul_le_mul_right _ ?_
      split <;> omega
def Gb : Nat → Nat
  | 0 => 0
  | n + 1 => (n + 1) * 4455 * Fb n
/-- the entries but the one at p -/
def rowC (x : Nat → Int) (n p : Nat) : Prop := (x p).natAbs ≤ 4455 ∧ ∃ c, ∀ j, j < n → j ≠ p → (x j).natAbs ≤ if j = c then 45 else 9
theorem rowC_mnr {A : Nat → Nat → Int} {n i c p : Nat} (h : rowC (A (i + 1)) (n + 1) p) (hc : c ≠ p) : rowC (mnr A c i) n (if p < c then p else p - 1) := by
  obtain ⟨h0, b, hb⟩ := h
  refine ⟨?_, if b < c then b else if b = c then n else b - 1, fun j hj hjp => ?_⟩
  · show (A (i + 1) (if (if p < c then p else p - 1) < c then (if p < c then p else p - 1) else (if p < c then p else p - 1) + 1)).natAbs ≤ 4455
    rw [show (if (if p < c then p else p - 1) < c then (if p < c then p else p - 1) else (if p < c then p else p - 1) + 1) = p by (repeat' split) <;> omega]
    exact h0
  · have e := hb (if j < c then j else j + 1) (by split <;> omega) (by revert hjp; (repeat' split) <;> omega)
    show (A (i + 1) (if j < c then j else j + 1)).natAbs ≤ _
    refine Nat.le_trans e ?_
    (repeat' split) <;> omega
theorem rowC_out {A : Nat → Nat → Int} {n i p : Nat} (h : rowC (A (i + 1)) (n + 1) p) : rowB (mnr A p i) n := by
  obtain ⟨h0, b, hb⟩ := h
  refine ⟨if b < p then b else if b = p then n else b - 1, fun j hj => ?_⟩
  have e := hb (if j < p then j else j + 1) (by split <;> omega) (by split <;> omega)
  show (A (i + 1) (if j < p then j else j + 1)).natAbs ≤ _
  refine Nat.le_trans e ?_
  (repeat' split) <;> omega
theorem sum_out {x : Nat → Int} {c p H K : Nat} (h0 : (x p).natAbs ≤ 4455) : ∀ n, (∀ j, j < n → j ≠ p → (x j).natAbs ≤ if j = c then 45 else 9) → sumTo (fun j => if j = p then (x j).natAbs * K else (x j).natAbs * H) n ≤ (9 * (n - if p < n then 1 else 0) + (if c < n ∧ c ≠ p then 36 else 0)) * H + (if p < n then 4455 * K else 0)
  | 0, _ => Nat.zero_le _
  | n + 1, h => by
    have e1 := sum_out (H := H) (K := K) h0 n (fun j hj => h j (by omega))
    show sumTo (fun j => if j = p then (x j).natAbs * K else (x j).natAbs * H) n + (if n = p then (x n).natAbs * K else (x n).natAbs * H) ≤ _
    by_cases cp : n = p
    · rw [if_pos cp, if_pos (show p < n + 1 by omega), if_pos (show p < n + 1 by omega)]
      rw [if_neg (show ¬ p < n by omega), if_neg (show ¬ p < n by omega)] at e1
      have e2 : (x n).natAbs * K ≤ 4455 * K := Nat.mul_le_mul_right K (by rw [cp]; exact h0)
      refine Nat.le_trans (Nat.add_le_add e1 e2) (Nat.add_le_add_right (Nat.mul_le_mul_right H ?_) _)
      (repeat' split) <;> omega
    · rw [if_neg cp]
      have e2 := Nat.mul_le_mul_right H (h n (by omega) cp)
      refine Nat.le_trans (Nat.add_le_add e1 e2) ?_
      rw [Nat.add_right_comm, ← Nat.add_mul, show (if p < n then 4455 * K else 0) = (if p < n + 1 then 4455 * K else 0) by (repeat' split) <;> first | rfl | omega]
      refine Nat.add_le_add_right (Nat.mul_le_mul_right H ?_) _
      (repeat' split) <;> omega
theorem Fb_G : ∀ n, (36 + 9 * n) * Gb n + 4455 * Fb n ≤ Gb (n + 1)
  | 0 => by decide
  | n + 1 => by
    show (36 + 9 * (n + 1)) * ((n + 1) * 4455 * Fb n) + 4455 * ((45 + 9 * n) * Fb n) ≤ (n + 1 + 1) * 4455 * ((45 + 9 * n) * Fb n)
    have e : (36 + 9 * (n + 1)) * ((n + 1) * 4455 * Fb n) + 4455 * ((45 + 9 * n) * Fb n) = (n + 1 + 1) * 4455 * ((45 + 9 * n) * Fb n) := by grind
    exact Nat.le_of_eq e
theorem dt_G : ∀ n (A : Nat → Nat → Int) p, p < n → (∀ i, i < n → rowC (A i) n p) → (dt n A).natAbs ≤ Gb n
  | 0, _, _, hp, _ => absurd hp (Nat.not_lt_zero _)
  | n + 1, A, p, hp, h => by
    obtain ⟨h0, c, hc⟩ := h 0 (by omega)
    refine Nat.le_trans (alS_le (g := fun j => if j = p then (A 0 j).natAbs * Fb n else (A 0 j).natAbs * Gb n) (n + 1) (fun j hj => ?_)) ?_
    · show (A 0 j * dt n (mnr A j)).natAbs ≤ if j = p then (A 0 j).natAbs * Fb n else (A 0 j).natAbs * Gb n
      rw [Int.natAbs_mul]
      by_cases cp : j = p
      · rw [if_pos cp]
        exact Nat.mul_le_mul_left _ (dt_F n _ (fun i hi => by rw [cp]; exact rowC_out (h (i + 1) (by omega))))
      · rw [if_neg cp]
        exact Nat.mul_le_mul_left _ (dt_G n _ (if p < j then p else p - 1) (by split <;> omega) (fun i hi => rowC_mnr (h (i + 1) (by omega)) cp))
    · refine Nat.le_trans (sum_out (x := A 0) (c := c) h0 (n + 1) hc) ?_
      rw [if_pos hp, if_pos hp]
      refine Nat.le_trans (Nat.add_le_add_right (Nat.mul_le_mul_right _ ?_) _) (Fb_G n)
      split <;> omega
theorem dt1 (M : Nat → Nat → Int) : dt 1 M = M 0 0 := by
  show 0 + M 0 0 * 1 = M 0 0
  omega
theorem dt2 (M : Nat → Nat → Int) : dt 2 M = d2 (M 0 0) (M 0 1) (M 1 0) (M 1 1) := by
  show 0 + M 0 0 * dt 1 (mnr M 0) + -(M 0 1 * dt 1 (mnr M 1)) = _
  rw [dt1, dt1, Int.zero_add, ← Int.sub_eq_add_neg]
  rfl
theorem dt3 (M : Nat → Nat → Int) : dt 3 M = d3 (M 0 0) (M 0 1) (M 0 2) (M 1 0) (M 1 1) (M 1 2) (M 2 0) (M 2 1) (M 2 2) := by
  show 0 + M 0 0 * dt 2 (mnr M 0) + -(M 0 1 * dt 2 (mnr M 1)) + M 0 2 * dt 2 (mnr M 2) = _
  rw [dt2, dt2, dt2, Int.zero_add, ← Int.sub_eq_add_neg]
  rfl
theorem dt4 (M : Nat → Nat → Int) : dt 4 M = d4 (M 0 0) (M 0 1) (M 0 2) (M 0 3) (M 1 0) (M 1 1) (M 1 2) (M 1 3) (M 2 0) (M 2 1) (M 2 2) (M 2 3) (M 3 0) (M 3 1) (M 3 2) (M 3 3) := by
  show 0 + M 0 0 * dt 3 (mnr M 0) + -(M 0 1 * dt 3 (mnr M 1)) + M 0 2 * dt 3 (mnr M 2) + -(M 0 3 * dt 3 (mnr M 3)) = _
  rw [dt3, dt3, dt3, dt3, Int.zero_add, ← Int.sub_eq_add_neg, ← Int.sub_eq_add_neg]
  rfl
theorem dt5 (M : Nat → Nat → Int) : dt 5 M = d5 (M 0 0) (M 0 1) (M 0 2) (M 0 3) (M 0 4) (M 1 0) (M 1 1) (M 1 2) (M 1 3) (M 1 4) (M 2 0) (M 2 1) (M 2 2) (M 2 3) (M 2 4) (M 3 0) (M 3 1) (M 3 2) (M 3 3) (M 3 4) (M 4 0) (M 4 1) (M 4 2) (M 4 3) (M 4 4) := by
  show 0 + M 0 0 * dt 4 (mnr M 0) + -(M 0 1 * dt 4 (mnr M 1)) + M 0 2 * dt 4 (mnr M 2) + -(M 0 3 * dt 4 (mnr M 3)) + M 0 4 * dt 4 (mnr M 4) = _
  rw [dt4, dt4, dt4, dt4, dt4, Int.zero_add, ← Int.sub_eq_add_neg, ← Int.sub_eq_add_neg]
  rfl
/-- the first k rows and columns bordered -/
def bdr (A : Nat → Nat → Int) (k i j : Nat) : Nat → Nat → Int := fun a c => A (if a < k then a else i) (if c < k then c else j)
theorem bm_dt (A : Nat → Nat → Int) {k : Nat} (hk : k ≤ 4) (i j : Nat) : bm A k i j = dt (k + 1) (bdr A k i j) := by
  rcases (show k = 0 ∨ k = 1 ∨ k = 2 ∨ k = 3 ∨ k = 4 by omega) with rfl | rfl | rfl | rfl | rfl
  · rw [dt1]
    rfl
  · rw [dt2]
    rfl
  · rw [dt3]
    rfl
  · rw [dt4]
    rfl
  · rw [dt5]
    rfl
theorem lm_dt (A : Nat → Nat → Int) {k : Nat} (hk : k ≤ 5) : lm A k = dt k (bdr A (k - 1) (k - 1) (k - 1)) := by
  cases k with
  | zero => rfl
  | succ k => exact bm_dt A (by omega) k k

