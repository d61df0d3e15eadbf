/-! ===== Cramer: the determinants solve the equations ===== -/
theorem cs2 (x00 x01 x10 x11 y0 y1 : Int) : x00 * d2 y0 x01 y1 x11 + x01 * d2 x00 y0 x10 y1 = y0 * d2 x00 x01 x10 x11 := by
  unfold d2
  grind
theorem cs3 (x00 x01 x02 x10 x11 x12 x20 x21 x22 y0 y1 y2 : Int) : x00 * d3 y0 x01 x02 y1 x11 x12 y2 x21 x22 + x01 * d3 x00 y0 x02 x10 y1 x12 x20 y2 x22 + x02 * d3 x00 x01 y0 x10 x11 y1 x20 x21 y2 = y0 * d3 x00 x01 x02 x10 x11 x12 x20 x21 x22 := by
  unfold d3 d2
  grind
set_option maxRecDepth 100000 in
set_option maxHeartbeats 4000000 in
theorem cs4 (x00 x01 x02 x03 x10 x11 x12 x13 x20 x21 x22 x23 x30 x31 x32 x33 y0 y1 y2 y3 : Int) : x00 * d4 y0 x01 x02 x03 y1 x11 x12 x13 y2 x21 x22 x23 y3 x31 x32 x33 + x01 * d4 x00 y0 x02 x03 x10 y1 x12 x13 x20 y2 x22 x23 x30 y3 x32 x33 + x02 * d4 x00 x01 y0 x03 x10 x11 y1 x13 x20 x21 y2 x23 x30 x31 y3 x33 + x03 * d4 x00 x01 x02 y0 x10 x11 x12 y1 x20 x21 x22 y2 x30 x31 x32 y3 = y0 * d4 x00 x01 x02 x03 x10 x11 x12 x13 x20 x21 x22 x23 x30 x31 x32 x33 := by
  unfold d4 d3 d2
  grind
set_option maxRecDepth 100000 in
set_option maxHeartbeats 4000000 in
theorem cs5 (x00 x01 x02 x03 x04 x10 x11 x12 x13 x14 x20 x21 x22 x23 x24 x30 x31 x32 x33 x34 x40 x41 x42 x43 x44 y0 y1 y2 y3 y4 : Int) : x00 * d5 y0 x01 x02 x03 x04 y1 x11 x12 x13 x14 y2 x21 x22 x23 x24 y3 x31 x32 x33 x34 y4 x41 x42 x43 x44 + x01 * d5 x00 y0 x02 x03 x04 x10 y1 x12 x13 x14 x20 y2 x22 x23 x24 x30 y3 x32 x33 x34 x40 y4 x42 x43 x44 + x02 * d5 x00 x01 y0 x03 x04 x10 x11 y1 x13 x14 x20 x21 y2 x23 x24 x30 x31 y3 x33 x34 x40 x41 y4 x43 x44 + x03 * d5 x00 x01 x02 y0 x04 x10 x11 x12 y1 x14 x20 x21 x22 y2 x24 x30 x31 x32 y3 x34 x40 x41 x42 y4 x44 + x04 * d5 x00 x01 x02 x03 y0 x10 x11 x12 x13 y1 x20 x21 x22 x23 y2 x30 x31 x32 x33 y3 x40 x41 x42 x43 y4 = y0 * d5 x00 x01 x02 x03 x04 x10 x11 x12 x13 x14 x20 x21 x22 x23 x24 x30 x31 x32 x33 x34 x40 x41 x42 x43 x44 := by
  unfold d5 d4 d3 d2
  grind
/-- a column put in the place of another -/
def rpC (A : Nat → Nat → Int) (p : Nat) (g : Nat → Int) : Nat → Nat → Int := fun i j => if j = p then g i else A i j
theorem cz1 (A : Nat → Nat → Int) (g : Nat → Int) : zS (fun c => A 0 c * lm (rpC A c g) 1) 0 1 = g 0 * lm A 1 := by
  have h : ∀ c, c < 1 → lm (rpC A c g) 1 =  g 0 := by
    intro c hc
    rcases (show c = 0 by omega) with rfl
    · simp [lm, bm, rpC]
  show 0 + A 0 (0 + 0) * lm (rpC A (0 + 0) g) 1 = _
  simp only [Nat.zero_add]
  rw [Int.zero_add, h 0 (by omega)]
  exact Int.mul_comm _ _
theorem cz2 (A : Nat → Nat → Int) (g : Nat → Int) : zS (fun c => A 0 c * lm (rpC A c g) 2) 0 2 = g 0 * lm A 2 := by
  have h : ∀ c, c < 2 → lm (rpC A c g) 2 = if c = 0 then d2 (g 0) (A 0 1) (g 1) (A 1 1) else d2 (A 0 0) (g 0) (A 1 0) (g 1) := by
    intro c hc
    rcases (show c = 0 ∨ c = 1 by omega) with rfl | rfl
    · simp [lm, bm, rpC]
    · simp [lm, bm, rpC]
  show 0 + A 0 (0 + 0) * lm (rpC A (0 + 0) g) 2 + A 0 (0 + 1) * lm (rpC A (0 + 1) g) 2 = _
  simp only [Nat.zero_add]
  rw [Int.zero_add, h 0 (by omega), h 1 (by omega)]
  exact cs2 (A 0 0) (A 0 1) (A 1 0) (A 1 1) (g 0) (g 1)
theorem cz3 (A : Nat → Nat → Int) (g : Nat → Int) : zS (fun c => A 0 c * lm (rpC A c g) 3) 0 3 = g 0 * lm A 3 := by
  have h : ∀ c, c < 3 → lm (rpC A c g) 3 = if c = 0 then d3 (g 0) (A 0 1) (A 0 2) (g 1) (A 1 1) (A 1 2) (g 2) (A 2 1) (A 2 2) else if c = 1 then d3 (A 0 0) (g 0) (A 0 2) (A 1 0) (g 1) (A 1 2) (A 2 0) (g 2) (A 2 2) else d3 (A 0 0) (A 0 1) (g 0) (A 1 0) (A 1 1) (g 1) (A 2 0) (A 2 1) (g 2) := by
    intro c hc
    rcases (show c = 0 ∨ c = 1 ∨ c = 2 by omega) with rfl | rfl | rfl
    · simp [lm, bm, rpC]
    · simp [lm, bm, rpC]
    · simp [lm, bm, rpC]
  show 0 + A 0 (0 + 0) * lm (rpC A (0 + 0) g) 3 + A 0 (0 + 1) * lm (rpC A (0 + 1) g) 3 + A 0 (0 + 2) * lm (rpC A (0 + 2) g) 3 = _
  simp only [Nat.zero_add]
  rw [Int.zero_add, h 0 (by omega), h 1 (by omega), h 2 (by omega)]
  exact cs3 (A 0 0) (A 0 1) (A 0 2) (A 1 0) (A 1 1) (A 1 2) (A 2 0) (A 2 1) (A 2 2) (g 0) (g 1) (g 2)
theorem cz4 (A : Nat → Nat → Int) (g : Nat → Int) : zS (fun c => A 0 c * lm (rpC A c g) 4) 0 4 = g 0 * lm A 4 := by
  have h : ∀ c, c < 4 → lm (rpC A c g) 4 = if c = 0 then d4 (g 0) (A 0 1) (A 0 2) (A 0 3) (g 1) (A 1 1) (A 1 2) (A 1 3) (g 2) (A 2 1) (A 2 2) (A 2 3) (g 3) (A 3 1) (A 3 2) (A 3 3) else if c = 1 then d4 (A 0 0) (g 0) (A 0 2) (A 0 3) (A 1 0) (g 1) (A 1 2) (A 1 3) (A 2 0) (g 2) (A 2 2) (A 2 3) (A 3 0) (g 3) (A 3 2) (A 3 3) else if c = 2 then d4 (A 0 0) (A 0 1) (g 0) (A 0 3) (A 1 0) (A 1 1) (g 1) (A 1 3) (A 2 0) (A 2 1) (g 2) (A 2 3) (A 3 0) (A 3 1) (g 3) (A 3 3) else d4 (A 0 0) (A 0 1) (A 0 2) (g 0) (A 1 0) (A 1 1) (A 1 2) (g 1) (A 2 0) (A 2 1) (A 2 2) (g 2) (A 3 0) (A 3 1) (A 3 2) (g 3) := by
    intro c hc
    rcases (show c = 0 ∨ c = 1 ∨ c = 2 ∨ c = 3 by omega) with rfl | rfl | rfl | rfl
    · simp [lm, bm, rpC]
    · simp [lm, bm, rpC]
    · simp [lm, bm, rpC]
    · simp [lm, bm, rpC]
  show 0 + A 0 (0 + 0) * lm (rpC A (0 + 0) g) 4 + A 0 (0 + 1) * lm (rpC A (0 + 1) g) 4 + A 0 (0 + 2) * lm (rpC A (0 + 2) g) 4 + A 0 (0 + 3) * lm (rpC A (0 + 3) g) 4 = _
  simp only [Nat.zero_add]
  rw [Int.zero_add, h 0 (by omega), h 1 (by omega), h 2 (by omega), h 3 (by omega)]
  exact cs4 (A 0 0) (A 0 1) (A 0 2) (A 0 3) (A 1 0) (A 1 1) (A 1 2) (A 1 3) (A 2 0) (A 2 1) (A 2 2) (A 2 3) (A 3 0) (A 3 1) (A 3 2) (A 3 3) (g 0) (g 1) (g 2) (g 3)
theorem cz5 (A : Nat → Nat → Int) (g : Nat → Int) : zS (fun c => A 0 c * lm (rpC A c g) 5) 0 5 = g 0 * lm A 5 := by
  have h : ∀ c, c < 5 → lm (rpC A c g) 5 = if c = 0 then d5 (g 0) (A 0 1) (A 0 2) (A 0 3) (A 0 4) (g 1) (A 1 1) (A 1 2) (A 1 3) (A 1 4) (g 2) (A 2 1) (A 2 2) (A 2 3) (A 2 4) (g 3) (A 3 1) (A 3 2) (A 3 3) (A 3 4) (g 4) (A 4 1) (A 4 2) (A 4 3) (A 4 4) else if c = 1 then d5 (A 0 0) (g 0) (A 0 2) (A 0 3) (A 0 4) (A 1 0) (g 1) (A 1 2) (A 1 3) (A 1 4) (A 2 0) (g 2) (A 2 2) (A 2 3) (A 2 4) (A 3 0) (g 3) (A 3 2) (A 3 3) (A 3 4) (A 4 0) (g 4) (A 4 2) (A 4 3) (A 4 4) else if c = 2 then d5 (A 0 0) (A 0 1) (g 0) (A 0 3) (A 0 4) (A 1 0) (A 1 1) (g 1) (A 1 3) (A 1 4) (A 2 0) (A 2 1) (g 2) (A 2 3) (A 2 4) (A 3 0) (A 3 1) (g 3) (A 3 3) (A 3 4) (A 4 0) (A 4 1) (g 4) (A 4 3) (A 4 4) else if c = 3 then d5 (A 0 0) (A 0 1) (A 0 2) (g 0) (A 0 4) (A 1 0) (A 1 1) (A 1 2) (g 1) (A 1 4) (A 2 0) (A 2 1) (A 2 2) (g 2) (A 2 4) (A 3 0) (A 3 1) (A 3 2) (g 3) (A 3 4) (A 4 0) (A 4 1) (A 4 2) (g 4) (A 4 4) else d5 (A 0 0) (A 0 1) (A 0 2) (A 0 3) (g 0) (A 1 0) (A 1 1) (A 1 2) (A 1 3) (g 1) (A 2 0) (A 2 1) (A 2 2) (A 2 3) (g 2) (A 3 0) (A 3 1) (A 3 2) (A 3 3) (g 3) (A 4 0) (A 4 1) (A 4 2) (A 4 3) (g 4) := by
    intro c hc
    rcases (show c = 0 ∨ c = 1 ∨ c = 2 ∨ c = 3 ∨ c = 4 by omega) with rfl | rfl | rfl | rfl | rfl
    · simp [lm, bm, rpC]
    · simp [lm, bm, rpC]
    · simp [lm, bm, rpC]
    · simp [lm, bm, rpC]
    · simp [lm, bm, rpC]
  show 0 + A 0 (0 + 0) * lm (rpC A (0 + 0) g) 5 + A 0 (0 + 1) * lm (rpC A (0 + 1) g) 5 + A 0 (0 + 2) * lm (rpC A (0 + 2) g) 5 + A 0 (0 + 3) * lm (rpC A (0 + 3) g) 5 + A 0 (0 + 4) * lm (rpC A (0 + 4) g) 5 = _
  simp only [Nat.zero_add]
  rw [Int.zero_add, h 0 (by omega), h 1 (by omega), h 2 (by omega), h 3 (by omega), h 4 (by omega)]
  exact cs5 (A 0 0) (A 0 1) (A 0 2) (A 0 3) (A 0 4) (A 1 0) (A 1 1) (A 1 2) (A 1 3) (A 1 4) (A 2 0) (A 2 1) (A 2 2) (A 2 3) (A 2 4) (A 3 0) (A 3 1) (A 3 2) (A 3 3) (A 3 4) (A 4 0) (A 4 1) (A 4 2) (A 4 3) (A 4 4) (g 0) (g 1) (g 2) (g 3) (g 4)
theorem cy_1_0 (A : Nat → Nat → Int) (y : Nat → Int) : lm (rpC A 0 (fun i => zS (fun c => A i c * y c) 0 1)) 1 = y 0 * lm A 1 := by
  have h : ∀ i, zS (fun c => A i c * y c) 0 1 = y 0 * A i 0 := by
    intro i
    show 0 + A i (0 + 0) * y (0 + 0) = _
    simp only [Nat.zero_add, Int.zero_add, Int.mul_comm]
  show zS (fun c => A 0 c * y c) 0 1 = y 0 * A 0 0
  exact h 0
theorem cy_2_0 (A : Nat → Nat → Int) (y : Nat → Int) : lm (rpC A 0 (fun i => zS (fun c => A i c * y c) 0 2)) 2 = y 0 * lm A 2 := by
  have h : ∀ i, zS (fun c => A i c * y c) 0 2 = y 0 * A i 0 + y 1 * A i 1 := by
    intro i
    show 0 + A i (0 + 0) * y (0 + 0) + A i (0 + 1) * y (0 + 1) = _
    simp only [Nat.zero_add, Int.zero_add, Int.mul_comm]
  simp only [h]
  simp only [lm, bm, rpC]
  exact cr2_0 (A 0 0) (A 0 1) (A 1 0) (A 1 1) (y 0) (y 1)
theorem cy_2_1 (A : Nat → Nat → Int) (y : Nat → Int) : lm (rpC A 1 (fun i => zS (fun c => A i c * y c) 0 2)) 2 = y 1 * lm A 2 := by
  have h : ∀ i, zS (fun c => A i c * y c) 0 2 = y 0 * A i 0 + y 1 * A i 1 := by
    intro i
    show 0 + A i (0 + 0) * y (0 + 0) + A i (0 + 1) * y (0 + 1) = _
    simp only [Nat.zero_add, Int.zero_add, Int.mul_comm]
  simp only [h]
  simp only [lm, bm, rpC]
  exact cr2_1 (A 0 0) (A 0 1) (A 1 0) (A 1 1) (y 0) (y 1)
theorem cy_3_0 (A : Nat → Nat → Int) (y : Nat → Int) : lm (rpC A 0 (fun i => zS (fun c => A i c * y c) 0 3)) 3 = y 0 * lm A 3 := by
  have h : ∀ i, zS (fun c => A i c * y c) 0 3 = y 0 * A i 0 + y 1 * A i 1 + y 2 * A i 2 := by
    intro i
    show 0 + A i (0 + 0) * y (0 + 0) + A i (0 + 1) * y (0 + 1) + A i (0 + 2) * y (0 + 2) = _
    simp only [Nat.zero_add, Int.zero_add, Int.mul_comm]
  simp only [h]
  simp only [lm, bm, rpC]
  exact cr3_0 (A 0 0) (A 0 1) (A 0 2) (A 1 0) (A 1 1) (A 1 2) (A 2 0) (A 2 1) (A 2 2) (y 0) (y 1) (y 2)
theorem cy_3_1 (A : Nat → Nat → Int) (y : Nat → Int) : lm (rpC A 1 (fun i => zS (fun c => A i c * y c) 0 3)) 3 = y 1 * lm A 3 := by
  have h : ∀ i, zS (fun c => A i c * y c) 0 3 = y 0 * A i 0 + y 1 * A i 1 + y 2 * A i 2 := by
    intro i
    show 0 + A i (0 + 0) * y (0 + 0) + A i (0 + 1) * y (0 + 1) + A i (0 + 2) * y (0 + 2) = _
    simp only [Nat.zero_add, Int.zero_add, Int.mul_comm]
  simp only [h]
  simp only [lm, bm, rpC]
  exact cr3_1 (A 0 0) (A 0 1) (A 0 2) (A 1 0) (A 1 1) (A 1 2) (A 2 0) (A 2 1) (A 2 2) (y 0) (y 1) (y 2)
theorem cy_3_2 (A : Nat → Nat → Int) (y : Nat → Int) : lm (rpC A 2 (fun i => zS (fun c => A i c * y c) 0 3)) 3 = y 2 * lm A 3 := by
  have h : ∀ i, zS (fun c => A i c * y c) 0 3 = y 0 * A i 0 + y 1 * A i 1 + y 2 * A i 2 := by
    intro i
    show 0 + A i (0 + 0) * y (0 + 0) + A i (0 + 1) * y (0 + 1) + A i (0 + 2) * y (0 + 2) = _
    simp only [Nat.zero_add, Int.zero_add, Int.mul_comm]
  simp only [h]
  simp only [lm, bm, rpC]
  exact cr3_2 (A 0 0) (A 0 1) (A 0 2) (A 1 0) (A 1 1) (A 1 2) (A 2 0) (A 2 1) (A 2 2) (y 0) (y 1) (y 2)
theorem cy_4_0 (A : Nat → Nat → Int) (y : Nat → Int) : lm (rpC A 0 (fun i => zS (fun c => A i c * y c) 0 4)) 4 = y 0 * lm A 4 := by
  have h : ∀ i, zS (fun c => A i c * y c) 0 4 = y 0 * A i 0 + y 1 * A i 1 + y 2 * A i 2 + y 3 * A i 3 := by
    intro i
    show 0 + A i (0 + 0) * y (0 + 0) + A i (0 + 1) * y (0 + 1) + A i (0 + 2) * y (0 + 2) + A i (0 + 3) * y (0 + 3) = _
    simp only [Nat.zero_add, Int.zero_add, Int.mul_comm]
  simp only [h]
  simp only [lm, bm, rpC]
  exact cr4_0 (A 0 0) (A 0 1) (A 0 2) (A 0 3) (A 1 0) (A 1 1) (A 1 2) (A 1 3) (A 2 0) (A 2 1) (A 2 2) (A 2 3) (A 3 0) (A 3 1) (A 3 2) (A 3 3) (y 0) (y 1) (y 2) (y 3)
theorem cy_4_1 (A : Nat → Nat → Int) (y : Nat → Int) : lm (rpC A 1 (fun i => zS (fun c => A i c * y c) 0 4)) 4 = y 1 * lm A 4 := by
  have h : ∀ i, zS (fun c => A i c * y c) 0 4 = y 0 * A i 0 + y 1 * A i 1 + y 2 * A i 2 + y 3 * A i 3 := by
    intro i
    show 0 + A i (0 + 0) * y (0 + 0) + A i (0 + 1) * y (0 + 1) + A i (0 + 2) * y (0 + 2) + A i (0 + 3) * y (0 + 3) = _
    simp only [Nat.zero_add, Int.zero_add, Int.mul_comm]
  simp only [h]
  simp only [lm, bm, rpC]
  exact cr4_1 (A 0 0) (A 0 1) (A 0 2) (A 0 3) (A 1 0) (A 1 1) (A 1 2) (A 1 3) (A 2 0) (A 2 1) (A 2 2) (A 2 3) (A 3 0) (A 3 1) (A 3 2) (A 3 3) (y 0) (y 1) (y 2) (y 3)
theorem cy_4_2 (A : Nat → Nat → Int) (y : Nat → Int) : lm (rpC A 2 (fun i => zS (fun c => A i c * y c) 0 4)) 4 = y 2 * lm A 4 := by
  have h : ∀ i, zS (fun c => A i c * y c) 0 4 = y 0 * A i 0 + y 1 * A i 1 + y 2 * A i 2 + y 3 * A i 3 := by
    intro i
    show 0 + A i (0 + 0) * y (0 + 0) + A i (0 + 1) * y (0 + 1) + A i (0 + 2) * y (0 + 2) + A i (0 + 3) * y (0 + 3) = _
    simp only [Nat.zero_add, Int.zero_add, Int.mul_comm]
  simp only [h]
  simp only [lm, bm, rpC]
  exact cr4_2 (A 0 0) (A 0 1) (A 0 2) (A 0 3) (A 1 0) (A 1 1) (A 1 2) (A 1 3) (A 2 0) (A 2 1) (A 2 2) (A 2 3) (A 3 0) (A 3 1) (A 3 2) (A 3 3) (y 0) (y 1) (y 2) (y 3)
theorem cy_4_3 (A : Nat → Nat → Int) (y : Nat → Int) : lm (rpC A 3 (fun i => zS (fun c => A i c * y c) 0 4)) 4 = y 3 * lm A 4 := by
  have h : ∀ i, zS (fun c => A i c * y c) 0 4 = y 0 * A i 0 + y 1 * A i 1 + y 2 * A i 2 + y 3 * A i 3 := by
    intro i
    show 0 + A i (0 + 0) * y (0 + 0) + A i (0 + 1) * y (0 + 1) + A i (0 + 2) * y (0 + 2) + A i (0 + 3) * y (0 + 3) = _
    simp only [Nat.zero_add, Int.zero_add, Int.mul_comm]
  simp only [h]
  simp only [lm, bm, rpC]
  exact cr4_3 (A 0 0) (A 0 1) (A 0 2) (A 0 3) (A 1 0) (A 1 1) (A 1 2) (A 1 3) (A 2 0) (A 2 1) (A 2 2) (A 2 3) (A 3 0) (A 3 1) (A 3 2) (A 3 3) (y 0) (y 1) (y 2) (y 3)
theorem cy_5_0 (A : Nat → Nat → Int) (y : Nat → Int) : lm (rpC A 0 (fun i => zS (fun c => A i c * y c) 0 5)) 5 = y 0 * lm A 5 := by
  have h : ∀ i, zS (fun c => A i c * y c) 0 5 = y 0 * A i 0 + y 1 * A i 1 + y 2 * A i 2 + y 3 * A i 3 + y 4 * A i 4 := by
    intro i
    show 0 + A i (0 + 0) * y (0 + 0) + A i (0 + 1) * y (0 + 1) + A i (0 + 2) * y (0 + 2) + A i (0 + 3) * y (0 + 3) + A i (0 + 4) * y (0 + 4) = _
    simp only [Nat.zero_add, Int.zero_add, Int.mul_comm]
  simp only [h]
  simp only [lm, bm, rpC]
  exact cr5_0 (A 0 0) (A 0 1) (A 0 2) (A 0 3) (A 0 4) (A 1 0) (A 1 1) (A 1 2) (A 1 3) (A 1 4) (A 2 0) (A 2 1) (A 2 2) (A 2 3) (A 2 4) (A 3 0) (A 3 1) (A 3 2) (A 3 3) (A 3 4) (A 4 0) (A 4 1) (A 4 2) (A 4 3) (A 4 4) (y 0) (y 1) (y 2) (y 3) (y 4)
theorem cy_5_1 (A : Nat → Nat → Int) (y : Nat → Int) : lm (rpC A 1 (fun i => zS (fun c => A i c * y c) 0 5)) 5 = y 1 * lm A 5 := by
  have h : ∀ i, zS (fun c => A i c * y c) 0 5 = y 0 * A i 0 + y 1 * A i 1 + y 2 * A i 2 + y 3 * A i 3 + y 4 * A i 4 := by
    intro i
    show 0 + A i (0 + 0) * y (0 + 0) + A i (0 + 1) * y (0 + 1) + A i (0 + 2) * y (0 + 2) + A i (0 + 3) * y (0 + 3) + A i (0 + 4) * y (0 + 4) = _
    simp only [Nat.zero_add, Int.zero_add, Int.mul_comm]
  simp only [h]
  simp only [lm, bm, rpC]
  exact cr5_1 (A 0 0) (A 0 1) (A 0 2) (A 0 3) (A 0 4) (A 1 0) (A 1 1) (A 1 2) (A 1 3) (A 1 4) (A 2 0) (A 2 1) (A 2 2) (A 2 3) (A 2 4) (A 3 0) (A 3 1) (A 3 2) (A 3 3) (A 3 4) (A 4 0) (A 4 1) (A 4 2) (A 4 3) (A 4 4) (y 0) (y 1) (y 2) (y 3) (y 4)
theorem cy_5_2 (A : Nat → Nat → Int) (y : Nat → Int) : lm (rpC A 2 (fun i => zS (fun c => A i c * y c) 0 5)) 5 = y 2 * lm A 5 := by
  have h : ∀ i, zS (fun c => A i c * y c) 0 5 = y 0 * A i 0 + y 1 * A i 1 + y 2 * A i 2 + y 3 * A i 3 + y 4 * A i 4 := by
    intro i
    show 0 + A i (0 + 0) * y (0 + 0) + A i (0 + 1) * y (0 + 1) + A i (0 + 2) * y (0 + 2) + A i (0 + 3) * y (0 + 3) + A i (0 + 4) * y (0 + 4) = _
    simp only [Nat.zero_add, Int.zero_add, Int.mul_comm]
  simp only [h]
  simp only [lm, bm, rpC]
  exact cr5_2 (A 0 0) (A 0 1) (A 0 2) (A 0 3) (A 0 4) (A 1 0) (A 1 1) (A 1 2) (A 1 3) (A 1 4) (A 2 0) (A 2 1) (A 2 2) (A 2 3) (A 2 4) (A 3 0) (A 3 1) (A 3 2) (A 3 3) (A 3 4) (A 4 0) (A 4 1) (A 4 2) (A 4 3) (A 4 4) (y 0) (y 1) (y 2) (y 3) (y 4)
theorem cy_5_3 (A : Nat → Nat → Int) (y : Nat → Int) : lm (rpC A 3 (fun i => zS (fun c => A i c * y c) 0 5)) 5 = y 3 * lm A 5 := by
  have h : ∀ i, zS (fun c => A i c * y c) 0 5 = y 0 * A i 0 + y 1 * A i 1 + y 2 * A i 2 + y 3 * A i 3 + y 4 * A i 4 := by
    intro i
    show 0 + A i (0 + 0) * y (0 + 0) + A i (0 + 1) * y (0 + 1) + A i (0 + 2) * y (0 + 2) + A i (0 + 3) * y (0 + 3) + A i (0 + 4) * y (0 + 4) = _
    simp only [Nat.zero_add, Int.zero_add, Int.mul_comm]
  simp only [h]
  simp only [lm, bm, rpC]
  exact cr5_3 (A 0 0) (A 0 1) (A 0 2) (A 0 3) (A 0 4) (A 1 0) (A 1 1) (A 1 2) (A 1 3) (A 1 4) (A 2 0) (A 2 1) (A 2 2) (A 2 3) (A 2 4) (A 3 0) (A 3 1) (A 3 2) (A 3 3) (A 3 4) (A 4 0) (A 4 1) (A 4 2) (A 4 3) (A 4 4) (y 0) (y 1) (y 2) (y 3) (y 4)
theorem cy_5_4 (A : Nat → Nat → Int) (y : Nat → Int) : lm (rpC A 4 (fun i => zS (fun c => A i c * y c) 0 5)) 5 = y 4 * lm A 5 := by
  have h : ∀ i, zS (fun c => A i c * y c) 0 5 = y 0 * A i 0 + y 1 * A i 1 + y 2 * A i 2 + y 3 * A i 3 + y 4 * A i 4 := by
    intro i
    show 0 + A i (0 + 0) * y (0 + 0) + A i (0 + 1) * y (0 + 1) + A i (0 + 2) * y (0 + 2) + A i (0 + 3) * y (0 + 3) + A i (0 + 4) * y (0 + 4) = _
    simp only [Nat.zero_add, Int.zero_add, Int.mul_comm]
  simp only [h]
  simp only [lm, bm, rpC]
  exact cr5_4 (A 0 0) (A 0 1) (A 0 2) (A 0 3) (A 0 4) (A 1 0) (A 1 1) (A 1 2) (A 1 3) (A 1 4) (A 2 0) (A 2 1) (A 2 2) (A 2 3) (A 2 4) (A 3 0) (A 3 1) (A 3 2) (A 3 3) (A 3 4) (A 4 0) (A 4 1) (A 4 2) (A 4 3) (A 4 4) (y 0) (y 1) (y 2) (y 3) (y 4)
theorem cram {m : Nat} (hm : m ≤ 5) (A : Nat → Nat → Int) (g : Nat → Int) {r : Nat} (hr : r < m) : zS (fun c => A r c * lm (rpC A c g) m) 0 m = g r * lm A m := by
  have z0 : ∀ (A : Nat → Nat → Int) (g : Nat → Int), zS (fun c => A 0 c * lm (rpC A c g) m) 0 m = g 0 * lm A m := by
    intro A g
    rcases (show m = 1 ∨ m = 2 ∨ m = 3 ∨ m = 4 ∨ m = 5 by omega) with rfl | rfl | rfl | rfl | rfl
    · exact cz1 A g
    · exact cz2 A g
    · exact cz3 A g
    · exact cz4 A g
    · exact cz5 A g
  by_cases c : r = 0
  · rw [c]
    exact z0 A g
  · have e := z0 (swA A 0 r) (fun i => if i = 0 then g r else if i = r then g 0 else g i)
    rw [lm_sw hm hr (by omega), if_pos rfl] at e
    have e2 : zS (fun c => swA A 0 r 0 c * lm (rpC (swA A 0 r) c (fun i => if i = 0 then g r else if i = r then g 0 else g i)) m) 0 m = zS (fun c => (A r c * lm (rpC A c g) m) * (-1)) 0 m := by
      refine zS_cong m (fun c _ _ => ?_)
      show swA A 0 r 0 c * lm (rpC (swA A 0 r) c (fun i => if i = 0 then g r else if i = r then g 0 else g i)) m = (A r c * lm (rpC A c g) m) * (-1)
      have e3 : rpC (swA A 0 r) c (fun i => if i = 0 then g r else if i = r then g 0 else g i) = swA (rpC A c g) 0 r := by
        funext i j
        by_cases h0 : i = 0
        · simp [rpC, swA, h0]
        · by_cases h1 : i = r
          · rw [h1] at h0
            simp [rpC, swA, h0, h1]
          · simp [rpC, swA, h0, h1]
      rw [e3, lm_sw hm hr (by omega), swA, if_pos rfl]
      grind
    rw [e2, ← zS_mul] at e
    grind
theorem cramU {m : Nat} (hm : m ≤ 5) {A : Nat → Nat → Int} {g y : Nat → Int} {k : Int} {p : Nat} (hp : p < m) (h : ∀ i, i < m → zS (fun c => A i c * y c) 0 m = k * g i) : k * lm (rpC A p g) m = y p * lm A m := by
  have e1 : lm (rpC A p (fun i => zS (fun c => A i c * y c) 0 m)) m = y p * lm A m := by
    rcases (show (m = 1 ∧ p = 0) ∨ (m = 2 ∧ p = 0) ∨ (m = 2 ∧ p = 1) ∨ (m = 3 ∧ p = 0) ∨ (m = 3 ∧ p = 1) ∨ (m = 3 ∧ p = 2) ∨ (m = 4 ∧ p = 0) ∨ (m = 4 ∧ p = 1) ∨ (m = 4 ∧ p = 2) ∨ (m = 4 ∧ p = 3) ∨ (m = 5 ∧ p = 0) ∨ (m = 5 ∧ p = 1) ∨ (m = 5 ∧ p = 2) ∨ (m = 5 ∧ p = 3) ∨ (m = 5 ∧ p = 4) by omega) with ⟨rfl, rfl⟩ | ⟨rfl, rfl⟩ | ⟨rfl, rfl⟩ | ⟨rfl, rfl⟩ | ⟨rfl, rfl⟩ | ⟨rfl, rfl⟩ | ⟨rfl, rfl⟩ | ⟨rfl, rfl⟩ | ⟨rfl, rfl⟩ | ⟨rfl, rfl⟩ | ⟨rfl, rfl⟩ | ⟨rfl, rfl⟩ | ⟨rfl, rfl⟩ | ⟨rfl, rfl⟩ | ⟨rfl, rfl⟩
    · exact cy_1_0 A y
    · exact cy_2_0 A y
    · exact cy_2_1 A y
    · exact cy_3_0 A y
    · exact cy_3_1 A y
    · exact cy_3_2 A y
    · exact cy_4_0 A y
    · exact cy_4_1 A y
    · exact cy_4_2 A y
    · exact cy_4_3 A y
    · exact cy_5_0 A y
    · exact cy_5_1 A y
    · exact cy_5_2 A y
    · exact cy_5_3 A y
    · exact cy_5_4 A y
  rw [← e1]
  refine (lm_col hm hp (fun i j hi hj => ?_)).symm
  unfold rpC
  by_cases c : j = p
  · rw [if_pos c, if_pos c, if_pos c]
    exact h i hi
  · rw [if_neg c, if_neg c, if_neg c]

