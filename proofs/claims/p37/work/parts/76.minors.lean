/-! ===== minors of a matrix ===== -/
/-- the minor of the first k rows and columns bordered by row i and column j -/
def bm (A : Nat → Nat → Int) : Nat → Nat → Nat → Int
  | 0, i, j => A i j
  | 1, i, j => d2 (A 0 0) (A 0 j) (A i 0) (A i j)
  | 2, i, j => d3 (A 0 0) (A 0 1) (A 0 j) (A 1 0) (A 1 1) (A 1 j) (A i 0) (A i 1) (A i j)
  | 3, i, j => d4 (A 0 0) (A 0 1) (A 0 2) (A 0 j) (A 1 0) (A 1 1) (A 1 2) (A 1 j) (A 2 0) (A 2 1) (A 2 2) (A 2 j) (A i 0) (A i 1) (A i 2) (A i j)
  | 4, i, j => d5 (A 0 0) (A 0 1) (A 0 2) (A 0 3) (A 0 j) (A 1 0) (A 1 1) (A 1 2) (A 1 3) (A 1 j) (A 2 0) (A 2 1) (A 2 2) (A 2 3) (A 2 j) (A 3 0) (A 3 1) (A 3 2) (A 3 3) (A 3 j) (A i 0) (A i 1) (A i 2) (A i 3) (A i j)
  | _, _, _ => 0
/-- the minor of the first k rows and columns -/
def lm (A : Nat → Nat → Int) : Nat → Int
  | 0 => 1
  | k + 1 => bm A k k k
theorem sylm (A : Nat → Nat → Int) {k : Nat} (hk : k ≤ 3) (i j : Nat) : bm A k i j * bm A k k k - bm A k i k * bm A k k j = bm A (k + 1) i j * lm A k := by
  rcases (show k = 0 ∨ k = 1 ∨ k = 2 ∨ k = 3 by omega) with rfl | rfl | rfl | rfl
  · show A i j * A 0 0 - A i 0 * A 0 j = d2 (A 0 0) (A 0 j) (A i 0) (A i j) * 1
    unfold d2
    grind
  · exact syl3 _ _ _ _ _ _ _ _ _
  · exact syl4 _ _ _ _ _ _ _ _ _ _ _ _ _ _ _ _
  · exact syl5 _ _ _ _ _ _ _ _ _ _ _ _ _ _ _ _ _ _ _ _ _ _ _ _ _
theorem pvt_s (A : Nat → Nat → Int) (k : Nat) : pvt A (k + 1) = elm A k k k := rfl
theorem elm_bm {A : Nat → Nat → Int} : ∀ k, k ≤ 4 → (∀ t, t < k → lm A (t + 1) ≠ 0) → (∀ i j, k ≤ i → k ≤ j → elm A k i j = bm A k i j) ∧ pvt A k = lm A k
  | 0, _, _ => ⟨fun _ _ _ _ => rfl, rfl⟩
  | k + 1, hk, h => by
    obtain ⟨h1, h2⟩ := elm_bm (A := A) k (by omega) (fun t ht => h t (by omega))
    have hp : lm A k ≠ 0 := by
      rcases k with _ | k
      · show (1 : Int) ≠ 0
        omega
      · exact h k (by omega)
    refine ⟨fun i j hi hj => ?_, ?_⟩
    · rw [elm_s, if_pos ⟨by omega, by omega⟩, h1 i j (by omega) (by omega), h1 k k (by omega) (by omega), h1 i k (by omega) (by omega), h1 k j (by omega) (by omega), h2, sylm A (by omega)]
      exact Int.mul_tdiv_cancel _ hp
    · rw [pvt_s, h1 k k (by omega) (by omega)]
      rfl
theorem elm_stay {A : Nat → Nat → Int} {i j : Nat} : ∀ k m, k ≤ m → i ≤ k → elm A m i j = elm A k i j
  | k, 0, h, _ => by rw [show k = 0 by omega]
  | k, m + 1, h, hi => by
    by_cases c : k = m + 1
    · rw [c]
    · rw [elm_s, if_neg (by omega), elm_stay k m (by omega) hi]
theorem sw2_01 (x00 x01 x10 x11 : Int) : d2 x10 x11 x00 x01 = -d2 x00 x01 x10 x11 := by
  unfold d2
  grind
theorem sw3_01 (x00 x01 x02 x10 x11 x12 x20 x21 x22 : Int) : d3 x10 x11 x12 x00 x01 x02 x20 x21 x22 = -d3 x00 x01 x02 x10 x11 x12 x20 x21 x22 := by
  unfold d3 d2
  grind
theorem sw3_02 (x00 x01 x02 x10 x11 x12 x20 x21 x22 : Int) : d3 x20 x21 x22 x10 x11 x12 x00 x01 x02 = -d3 x00 x01 x02 x10 x11 x12 x20 x21 x22 := by
  unfold d3 d2
  grind
theorem sw3_12 (x00 x01 x02 x10 x11 x12 x20 x21 x22 : Int) : d3 x00 x01 x02 x20 x21 x22 x10 x11 x12 = -d3 x00 x01 x02 x10 x11 x12 x20 x21 x22 := by
  unfold d3 d2
  grind
theorem sw4_01 (x00 x01 x02 x03 x10 x11 x12 x13 x20 x21 x22 x23 x30 x31 x32 x33 : Int) : d4 x10 x11 x12 x13 x00 x01 x02 x03 x20 x21 x22 x23 x30 x31 x32 x33 = -d4 x00 x01 x02 x03 x10 x11 x12 x13 x20 x21 x22 x23 x30 x31 x32 x33 := by
  unfold d4 d3 d2
  grind
theorem sw4_02 (x00 x01 x02 x03 x10 x11 x12 x13 x20 x21 x22 x23 x30 x31 x32 x33 : Int) : d4 x20 x21 x22 x23 x10 x11 x12 x13 x00 x01 x02 x03 x30 x31 x32 x33 = -d4 x00 x01 x02 x03 x10 x11 x12 x13 x20 x21 x22 x23 x30 x31 x32 x33 := by
  unfold d4 d3 d2
  grind
theorem sw4_03 (x00 x01 x02 x03 x10 x11 x12 x13 x20 x21 x22 x23 x30 x31 x32 x33 : Int) : d4 x30 x31 x32 x33 x10 x11 x12 x13 x20 x21 x22 x23 x00 x01 x02 x03 = -d4 x00 x01 x02 x03 x10 x11 x12 x13 x20 x21 x22 x23 x30 x31 x32 x33 := by
  unfold d4 d3 d2
  grind
theorem sw4_12 (x00 x01 x02 x03 x10 x11 x12 x13 x20 x21 x22 x23 x30 x31 x32 x33 : Int) : d4 x00 x01 x02 x03 x20 x21 x22 x23 x10 x11 x12 x13 x30 x31 x32 x33 = -d4 x00 x01 x02 x03 x10 x11 x12 x13 x20 x21 x22 x23 x30 x31 x32 x33 := by
  unfold d4 d3 d2
  grind
theorem sw4_13 (x00 x01 x02 x03 x10 x11 x12 x13 x20 x21 x22 x23 x30 x31 x32 x33 : Int) : d4 x00 x01 x02 x03 x30 x31 x32 x33 x20 x21 x22 x23 x10 x11 x12 x13 = -d4 x00 x01 x02 x03 x10 x11 x12 x13 x20 x21 x22 x23 x30 x31 x32 x33 := by
  unfold d4 d3 d2
  grind
theorem sw4_23 (x00 x01 x02 x03 x10 x11 x12 x13 x20 x21 x22 x23 x30 x31 x32 x33 : Int) : d4 x00 x01 x02 x03 x10 x11 x12 x13 x30 x31 x32 x33 x20 x21 x22 x23 = -d4 x00 x01 x02 x03 x10 x11 x12 x13 x20 x21 x22 x23 x30 x31 x32 x33 := by
  unfold d4 d3 d2
  grind
set_option maxRecDepth 100000 in
set_option maxHeartbeats 4000000 in
theorem sw5_01 (x00 x01 x02 x03 x04 x10 x11 x12 x13 x14 x20 x21 x22 x23 x24 x30 x31 x32 x33 x34 x40 x41 x42 x43 x44 : Int) : d5 x10 x11 x12 x13 x14 x00 x01 x02 x03 x04 x20 x21 x22 x23 x24 x30 x31 x32 x33 x34 x40 x41 x42 x43 x44 = -d5 x00 x01 x02 x03 x04 x10 x11 x12 x13 x14 x20 x21 x22 x23 x24 x30 x31 x32 x33 x34 x40 x41 x42 x43 x44 := by
  unfold d5 d4 d3 d2
  grind
set_option maxRecDepth 100000 in
set_option maxHeartbeats 4000000 in
theorem sw5_02 (x00 x01 x02 x03 x04 x10 x11 x12 x13 x14 x20 x21 x22 x23 x24 x30 x31 x32 x33 x34 x40 x41 x42 x43 x44 : Int) : d5 x20 x21 x22 x23 x24 x10 x11 x12 x13 x14 x00 x01 x02 x03 x04 x30 x31 x32 x33 x34 x40 x41 x42 x43 x44 = -d5 x00 x01 x02 x03 x04 x10 x11 x12 x13 x14 x20 x21 x22 x23 x24 x30 x31 x32 x33 x34 x40 x41 x42 x43 x44 := by
  unfold d5 d4 d3 d2
  grind
set_option maxRecDepth 100000 in
set_option maxHeartbeats 4000000 in
theorem sw5_03 (x00 x01 x02 x03 x04 x10 x11 x12 x13 x14 x20 x21 x22 x23 x24 x30 x31 x32 x33 x34 x40 x41 x42 x43 x44 : Int) : d5 x30 x31 x32 x33 x34 x10 x11 x12 x13 x14 x20 x21 x22 x23 x24 x00 x01 x02 x03 x04 x40 x41 x42 x43 x44 = -d5 x00 x01 x02 x03 x04 x10 x11 x12 x13 x14 x20 x21 x22 x23 x24 x30 x31 x32 x33 x34 x40 x41 x42 x43 x44 := by
  unfold d5 d4 d3 d2
  grind
set_option maxRecDepth 100000 in
set_option maxHeartbeats 4000000 in
theorem sw5_04 (x00 x01 x02 x03 x04 x10 x11 x12 x13 x14 x20 x21 x22 x23 x24 x30 x31 x32 x33 x34 x40 x41 x42 x43 x44 : Int) : d5 x40 x41 x42 x43 x44 x10 x11 x12 x13 x14 x20 x21 x22 x23 x24 x30 x31 x32 x33 x34 x00 x01 x02 x03 x04 = -d5 x00 x01 x02 x03 x04 x10 x11 x12 x13 x14 x20 x21 x22 x23 x24 x30 x31 x32 x33 x34 x40 x41 x42 x43 x44 := by
  unfold d5 d4 d3 d2
  grind
set_option maxRecDepth 100000 in
set_option maxHeartbeats 4000000 in
theorem sw5_12 (x00 x01 x02 x03 x04 x10 x11 x12 x13 x14 x20 x21 x22 x23 x24 x30 x31 x32 x33 x34 x40 x41 x42 x43 x44 : Int) : d5 x00 x01 x02 x03 x04 x20 x21 x22 x23 x24 x10 x11 x12 x13 x14 x30 x31 x32 x33 x34 x40 x41 x42 x43 x44 = -d5 x00 x01 x02 x03 x04 x10 x11 x12 x13 x14 x20 x21 x22 x23 x24 x30 x31 x32 x33 x34 x40 x41 x42 x43 x44 := by
  unfold d5 d4 d3 d2
  grind
set_option maxRecDepth 100000 in
set_option maxHeartbeats 4000000 in
theorem sw5_13 (x00 x01 x02 x03 x04 x10 x11 x12 x13 x14 x20 x21 x22 x23 x24 x30 x31 x32 x33 x34 x40 x41 x42 x43 x44 : Int) : d5 x00 x01 x02 x03 x04 x30 x31 x32 x33 x34 x20 x21 x22 x23 x24 x10 x11 x12 x13 x14 x40 x41 x42 x43 x44 = -d5 x00 x01 x02 x03 x04 x10 x11 x12 x13 x14 x20 x21 x22 x23 x24 x30 x31 x32 x33 x34 x40 x41 x42 x43 x44 := by
  unfold d5 d4 d3 d2
  grind
set_option maxRecDepth 100000 in
set_option maxHeartbeats 4000000 in
theorem sw5_14 (x00 x01 x02 x03 x04 x10 x11 x12 x13 x14 x20 x21 x22 x23 x24 x30 x31 x32 x33 x34 x40 x41 x42 x43 x44 : Int) : d5 x00 x01 x02 x03 x04 x40 x41 x42 x43 x44 x20 x21 x22 x23 x24 x30 x31 x32 x33 x34 x10 x11 x12 x13 x14 = -d5 x00 x01 x02 x03 x04 x10 x11 x12 x13 x14 x20 x21 x22 x23 x24 x30 x31 x32 x33 x34 x40 x41 x42 x43 x44 := by
  unfold d5 d4 d3 d2
  grind
set_option maxRecDepth 100000 in
set_option maxHeartbeats 4000000 in
theorem sw5_23 (x00 x01 x02 x03 x04 x10 x11 x12 x13 x14 x20 x21 x22 x23 x24 x30 x31 x32 x33 x34 x40 x41 x42 x43 x44 : Int) : d5 x00 x01 x02 x03 x04 x10 x11 x12 x13 x14 x30 x31 x32 x33 x34 x20 x21 x22 x23 x24 x40 x41 x42 x43 x44 = -d5 x00 x01 x02 x03 x04 x10 x11 x12 x13 x14 x20 x21 x22 x23 x24 x30 x31 x32 x33 x34 x40 x41 x42 x43 x44 := by
  unfold d5 d4 d3 d2
  grind
set_option maxRecDepth 100000 in
set_option maxHeartbeats 4000000 in
theorem sw5_24 (x00 x01 x02 x03 x04 x10 x11 x12 x13 x14 x20 x21 x22 x23 x24 x30 x31 x32 x33 x34 x40 x41 x42 x43 x44 : Int) : d5 x00 x01 x02 x03 x04 x10 x11 x12 x13 x14 x40 x41 x42 x43 x44 x30 x31 x32 x33 x34 x20 x21 x22 x23 x24 = -d5 x00 x01 x02 x03 x04 x10 x11 x12 x13 x14 x20 x21 x22 x23 x24 x30 x31 x32 x33 x34 x40 x41 x42 x43 x44 := by
  unfold d5 d4 d3 d2
  grind
set_option maxRecDepth 100000 in
set_option maxHeartbeats 4000000 in
theorem sw5_34 (x00 x01 x02 x03 x04 x10 x11 x12 x13 x14 x20 x21 x22 x23 x24 x30 x31 x32 x33 x34 x40 x41 x42 x43 x44 : Int) : d5 x00 x01 x02 x03 x04 x10 x11 x12 x13 x14 x20 x21 x22 x23 x24 x40 x41 x42 x43 x44 x30 x31 x32 x33 x34 = -d5 x00 x01 x02 x03 x04 x10 x11 x12 x13 x14 x20 x21 x22 x23 x24 x30 x31 x32 x33 x34 x40 x41 x42 x43 x44 := by
  unfold d5 d4 d3 d2
  grind
theorem cr2_0 (x00 x01 x10 x11 y0 y1 : Int) : d2 (y0 * x00 + y1 * x01) (x01) (y0 * x10 + y1 * x11) (x11) = y0 * d2 x00 x01 x10 x11 := by
  unfold d2
  grind
theorem cr2_1 (x00 x01 x10 x11 y0 y1 : Int) : d2 (x00) (y0 * x00 + y1 * x01) (x10) (y0 * x10 + y1 * x11) = y1 * d2 x00 x01 x10 x11 := by
  unfold d2
  grind
theorem cr3_0 (x00 x01 x02 x10 x11 x12 x20 x21 x22 y0 y1 y2 : Int) : d3 (y0 * x00 + y1 * x01 + y2 * x02) (x01) (x02) (y0 * x10 + y1 * x11 + y2 * x12) (x11) (x12) (y0 * x20 + y1 * x21 + y2 * x22) (x21) (x22) = y0 * d3 x00 x01 x02 x10 x11 x12 x20 x21 x22 := by
  unfold d3 d2
  grind
theorem cr3_1 (x00 x01 x02 x10 x11 x12 x20 x21 x22 y0 y1 y2 : Int) : d3 (x00) (y0 * x00 + y1 * x01 + y2 * x02) (x02) (x10) (y0 * x10 + y1 * x11 + y2 * x12) (x12) (x20) (y0 * x20 + y1 * x21 + y2 * x22) (x22) = y1 * d3 x00 x01 x02 x10 x11 x12 x20 x21 x22 := by
  unfold d3 d2
  grind
theorem cr3_2 (x00 x01 x02 x10 x11 x12 x20 x21 x22 y0 y1 y2 : Int) : d3 (x00) (x01) (y0 * x00 + y1 * x01 + y2 * x02) (x10) (x11) (y0 * x10 + y1 * x11 + y2 * x12) (x20) (x21) (y0 * x20 + y1 * x21 + y2 * x22) = y2 * d3 x00 x01 x02 x10 x11 x12 x20 x21 x22 := by
  unfold d3 d2
  grind
set_option maxRecDepth 100000 in
set_option maxHeartbeats 4000000 in
theorem cr4_0 (x00 x01 x02 x03 x10 x11 x12 x13 x20 x21 x22 x23 x30 x31 x32 x33 y0 y1 y2 y3 : Int) : d4 (y0 * x00 + y1 * x01 + y2 * x02 + y3 * x03) (x01) (x02) (x03) (y0 * x10 + y1 * x11 + y2 * x12 + y3 * x13) (x11) (x12) (x13) (y0 * x20 + y1 * x21 + y2 * x22 + y3 * x23) (x21) (x22) (x23) (y0 * x30 + y1 * x31 + y2 * x32 + y3 * x33) (x31) (x32) (x33) = y0 * d4 x00 x01 x02 x03 x10 x11 x12 x13 x20 x21 x22 x23 x30 x31 x32 x33 := by
  unfold d4 d3 d2
  grind
set_option maxRecDepth 100000 in
set_option maxHeartbeats 4000000 in
theorem cr4_1 (x00 x01 x02 x03 x10 x11 x12 x13 x20 x21 x22 x23 x30 x31 x32 x33 y0 y1 y2 y3 : Int) : d4 (x00) (y0 * x00 + y1 * x01 + y2 * x02 + y3 * x03) (x02) (x03) (x10) (y0 * x10 + y1 * x11 + y2 * x12 + y3 * x13) (x12) (x13) (x20) (y0 * x20 + y1 * x21 + y2 * x22 + y3 * x23) (x22) (x23) (x30) (y0 * x30 + y1 * x31 + y2 * x32 + y3 * x33) (x32) (x33) = y1 * d4 x00 x01 x02 x03 x10 x11 x12 x13 x20 x21 x22 x23 x30 x31 x32 x33 := by
  unfold d4 d3 d2
  grind
set_option maxRecDepth 100000 in
set_option maxHeartbeats 4000000 in
theorem cr4_2 (x00 x01 x02 x03 x10 x11 x12 x13 x20 x21 x22 x23 x30 x31 x32 x33 y0 y1 y2 y3 : Int) : d4 (x00) (x01) (y0 * x00 + y1 * x01 + y2 * x02 + y3 * x03) (x03) (x10) (x11) (y0 * x10 + y1 * x11 + y2 * x12 + y3 * x13) (x13) (x20) (x21) (y0 * x20 + y1 * x21 + y2 * x22 + y3 * x23) (x23) (x30) (x31) (y0 * x30 + y1 * x31 + y2 * x32 + y3 * x33) (x33) = y2 * d4 x00 x01 x02 x03 x10 x11 x12 x13 x20 x21 x22 x23 x30 x31 x32 x33 := by
  unfold d4 d3 d2
  grind
set_option maxRecDepth 100000 in
set_option maxHeartbeats 4000000 in
theorem cr4_3 (x00 x01 x02 x03 x10 x11 x12 x13 x20 x21 x22 x23 x30 x31 x32 x33 y0 y1 y2 y3 : Int) : d4 (x00) (x01) (x02) (y0 * x00 + y1 * x01 + y2 * x02 + y3 * x03) (x10) (x11) (x12) (y0 * x10 + y1 * x11 + y2 * x12 + y3 * x13) (x20) (x21) (x22) (y0 * x20 + y1 * x21 + y2 * x22 + y3 * x23) (x30) (x31) (x32) (y0 * x30 + y1 * x31 + y2 * x32 + y3 * x33) = y3 * d4 x00 x01 x02 x03 x10 x11 x12 x13 x20 x21 x22 x23 x30 x31 x32 x33 := by
  unfold d4 d3 d2
  grind
set_option maxRecDepth 100000 in
set_option maxHeartbeats 4000000 in
theorem cr5_0 (x00 x01 x02 x03 x04 x10 x11 x12 x13 x14 x20 x21 x22 x23 x24 x30 x31 x32 x33 x34 x40 x41 x42 x43 x44 y0 y1 y2 y3 y4 : Int) : d5 (y0 * x00 + y1 * x01 + y2 * x02 + y3 * x03 + y4 * x04) (x01) (x02) (x03) (x04) (y0 * x10 + y1 * x11 + y2 * x12 + y3 * x13 + y4 * x14) (x11) (x12) (x13) (x14) (y0 * x20 + y1 * x21 + y2 * x22 + y3 * x23 + y4 * x24) (x21) (x22) (x23) (x24) (y0 * x30 + y1 * x31 + y2 * x32 + y3 * x33 + y4 * x34) (x31) (x32) (x33) (x34) (y0 * x40 + y1 * x41 + y2 * x42 + y3 * x43 + y4 * x44) (x41) (x42) (x43) (x44) = y0 * d5 x00 x01 x02 x03 x04 x10 x11 x12 x13 x14 x20 x21 x22 x23 x24 x30 x31 x32 x33 x34 x40 x41 x42 x43 x44 := by
  unfold d5 d4 d3 d2
  grind
set_option maxRecDepth 100000 in
set_option maxHeartbeats 4000000 in
theorem cr5_1 (x00 x01 x02 x03 x04 x10 x11 x12 x13 x14 x20 x21 x22 x23 x24 x30 x31 x32 x33 x34 x40 x41 x42 x43 x44 y0 y1 y2 y3 y4 : Int) : d5 (x00) (y0 * x00 + y1 * x01 + y2 * x02 + y3 * x03 + y4 * x04) (x02) (x03) (x04) (x10) (y0 * x10 + y1 * x11 + y2 * x12 + y3 * x13 + y4 * x14) (x12) (x13) (x14) (x20) (y0 * x20 + y1 * x21 + y2 * x22 + y3 * x23 + y4 * x24) (x22) (x23) (x24) (x30) (y0 * x30 + y1 * x31 + y2 * x32 + y3 * x33 + y4 * x34) (x32) (x33) (x34) (x40) (y0 * x40 + y1 * x41 + y2 * x42 + y3 * x43 + y4 * x44) (x42) (x43) (x44) = y1 * d5 x00 x01 x02 x03 x04 x10 x11 x12 x13 x14 x20 x21 x22 x23 x24 x30 x31 x32 x33 x34 x40 x41 x42 x43 x44 := by
  unfold d5 d4 d3 d2
  grind
set_option maxRecDepth 100000 in
set_option maxHeartbeats 4000000 in
theorem cr5_2 (x00 x01 x02 x03 x04 x10 x11 x12 x13 x14 x20 x21 x22 x23 x24 x30 x31 x32 x33 x34 x40 x41 x42 x43 x44 y0 y1 y2 y3 y4 : Int) : d5 (x00) (x01) (y0 * x00 + y1 * x01 + y2 * x02 + y3 * x03 + y4 * x04) (x03) (x04) (x10) (x11) (y0 * x10 + y1 * x11 + y2 * x12 + y3 * x13 + y4 * x14) (x13) (x14) (x20) (x21) (y0 * x20 + y1 * x21 + y2 * x22 + y3 * x23 + y4 * x24) (x23) (x24) (x30) (x31) (y0 * x30 + y1 * x31 + y2 * x32 + y3 * x33 + y4 * x34) (x33) (x34) (x40) (x41) (y0 * x40 + y1 * x41 + y2 * x42 + y3 * x43 + y4 * x44) (x43) (x44) = y2 * d5 x00 x01 x02 x03 x04 x10 x11 x12 x13 x14 x20 x21 x22 x23 x24 x30 x31 x32 x33 x34 x40 x41 x42 x43 x44 := by
  unfold d5 d4 d3 d2
  grind
set_option maxRecDepth 100000 in
set_option maxHeartbeats 4000000 in
theorem cr5_3 (x00 x01 x02 x03 x04 x10 x11 x12 x13 x14 x20 x21 x22 x23 x24 x30 x31 x32 x33 x34 x40 x41 x42 x43 x44 y0 y1 y2 y3 y4 : Int) : d5 (x00) (x01) (x02) (y0 * x00 + y1 * x01 + y2 * x02 + y3 * x03 + y4 * x04) (x04) (x10) (x11) (x12) (y0 * x10 + y1 * x11 + y2 * x12 + y3 * x13 + y4 * x14) (x14) (x20) (x21) (x22) (y0 * x20 + y1 * x21 + y2 * x22 + y3 * x23 + y4 * x24) (x24) (x30) (x31) (x32) (y0 * x30 + y1 * x31 + y2 * x32 + y3 * x33 + y4 * x34) (x34) (x40) (x41) (x42) (y0 * x40 + y1 * x41 + y2 * x42 + y3 * x43 + y4 * x44) (x44) = y3 * d5 x00 x01 x02 x03 x04 x10 x11 x12 x13 x14 x20 x21 x22 x23 x24 x30 x31 x32 x33 x34 x40 x41 x42 x43 x44 := by
  unfold d5 d4 d3 d2
  grind
set_option maxRecDepth 100000 in
set_option maxHeartbeats 4000000 in
theorem cr5_4 (x00 x01 x02 x03 x04 x10 x11 x12 x13 x14 x20 x21 x22 x23 x24 x30 x31 x32 x33 x34 x40 x41 x42 x43 x44 y0 y1 y2 y3 y4 : Int) : d5 (x00) (x01) (x02) (x03) (y0 * x00 + y1 * x01 + y2 * x02 + y3 * x03 + y4 * x04) (x10) (x11) (x12) (x13) (y0 * x10 + y1 * x11 + y2 * x12 + y3 * x13 + y4 * x14) (x20) (x21) (x22) (x23) (y0 * x20 + y1 * x21 + y2 * x22 + y3 * x23 + y4 * x24) (x30) (x31) (x32) (x33) (y0 * x30 + y1 * x31 + y2 * x32 + y3 * x33 + y4 * x34) (x40) (x41) (x42) (x43) (y0 * x40 + y1 * x41 + y2 * x42 + y3 * x43 + y4 * x44) = y4 * d5 x00 x01 x02 x03 x04 x10 x11 x12 x13 x14 x20 x21 x22 x23 x24 x30 x31 x32 x33 x34 x40 x41 x42 x43 x44 := by
  unfold d5 d4 d3 d2
  grind

