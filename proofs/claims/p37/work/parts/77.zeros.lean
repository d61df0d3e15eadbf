/-! ===== the reference: a determinant is a minor ===== -/
theorem zc2_0 (x01 x11 : Int) : d2 0 x01 0 x11 = 0 := by
  unfold d2
  grind
theorem zc2_1 (x00 x10 : Int) : d2 x00 0 x10 0 = 0 := by
  unfold d2
  grind
theorem zc3_0 (x01 x02 x11 x12 x21 x22 : Int) : d3 0 x01 x02 0 x11 x12 0 x21 x22 = 0 := by
  unfold d3 d2
  grind
theorem zc3_1 (x00 x02 x10 x12 x20 x22 : Int) : d3 x00 0 x02 x10 0 x12 x20 0 x22 = 0 := by
  unfold d3 d2
  grind
theorem zc3_2 (x00 x01 x10 x11 x20 x21 : Int) : d3 x00 x01 0 x10 x11 0 x20 x21 0 = 0 := by
  unfold d3 d2
  grind
set_option maxRecDepth 100000 in
set_option maxHeartbeats 4000000 in
theorem zc4_0 (x01 x02 x03 x11 x12 x13 x21 x22 x23 x31 x32 x33 : Int) : d4 0 x01 x02 x03 0 x11 x12 x13 0 x21 x22 x23 0 x31 x32 x33 = 0 := by
  unfold d4 d3 d2
  grind
set_option maxRecDepth 100000 in
set_option maxHeartbeats 4000000 in
theorem zc4_1 (x00 x02 x03 x10 x12 x13 x20 x22 x23 x30 x32 x33 : Int) : d4 x00 0 x02 x03 x10 0 x12 x13 x20 0 x22 x23 x30 0 x32 x33 = 0 := by
  unfold d4 d3 d2
  grind
set_option maxRecDepth 100000 in
set_option maxHeartbeats 4000000 in
theorem zc4_2 (x00 x01 x03 x10 x11 x13 x20 x21 x23 x30 x31 x33 : Int) : d4 x00 x01 0 x03 x10 x11 0 x13 x20 x21 0 x23 x30 x31 0 x33 = 0 := by
  unfold d4 d3 d2
  grind
set_option maxRecDepth 100000 in
set_option maxHeartbeats 4000000 in
theorem zc4_3 (x00 x01 x02 x10 x11 x12 x20 x21 x22 x30 x31 x32 : Int) : d4 x00 x01 x02 0 x10 x11 x12 0 x20 x21 x22 0 x30 x31 x32 0 = 0 := by
  unfold d4 d3 d2
  grind
set_option maxRecDepth 100000 in
set_option maxHeartbeats 4000000 in
theorem zc5_0 (x01 x02 x03 x04 x11 x12 x13 x14 x21 x22 x23 x24 x31 x32 x33 x34 x41 x42 x43 x44 : Int) : d5 0 x01 x02 x03 x04 0 x11 x12 x13 x14 0 x21 x22 x23 x24 0 x31 x32 x33 x34 0 x41 x42 x43 x44 = 0 := by
  unfold d5 d4 d3 d2
  grind
set_option maxRecDepth 100000 in
set_option maxHeartbeats 4000000 in
theorem zc5_1 (x00 x02 x03 x04 x10 x12 x13 x14 x20 x22 x23 x24 x30 x32 x33 x34 x40 x42 x43 x44 : Int) : d5 x00 0 x02 x03 x04 x10 0 x12 x13 x14 x20 0 x22 x23 x24 x30 0 x32 x33 x34 x40 0 x42 x43 x44 = 0 := by
  unfold d5 d4 d3 d2
  grind
set_option maxRecDepth 100000 in
set_option maxHeartbeats 4000000 in
theorem zc5_2 (x00 x01 x03 x04 x10 x11 x13 x14 x20 x21 x23 x24 x30 x31 x33 x34 x40 x41 x43 x44 : Int) : d5 x00 x01 0 x03 x04 x10 x11 0 x13 x14 x20 x21 0 x23 x24 x30 x31 0 x33 x34 x40 x41 0 x43 x44 = 0 := by
  unfold d5 d4 d3 d2
  grind
set_option maxRecDepth 100000 in
set_option maxHeartbeats 4000000 in
theorem zc5_3 (x00 x01 x02 x04 x10 x11 x12 x14 x20 x21 x22 x24 x30 x31 x32 x34 x40 x41 x42 x44 : Int) : d5 x00 x01 x02 0 x04 x10 x11 x12 0 x14 x20 x21 x22 0 x24 x30 x31 x32 0 x34 x40 x41 x42 0 x44 = 0 := by
  unfold d5 d4 d3 d2
  grind
set_option maxRecDepth 100000 in
set_option maxHeartbeats 4000000 in
theorem zc5_4 (x00 x01 x02 x03 x10 x11 x12 x13 x20 x21 x22 x23 x30 x31 x32 x33 x40 x41 x42 x43 : Int) : d5 x00 x01 x02 x03 0 x10 x11 x12 x13 0 x20 x21 x22 x23 0 x30 x31 x32 x33 0 x40 x41 x42 x43 0 = 0 := by
  unfold d5 d4 d3 d2
  grind
theorem zn2_0 {P : Nat → Nat → Int} (h0 : lm P 0 ≠ 0) (hz : ∀ i, 0 ≤ i → i < 2 → bm P 0 i 0 = 0) : lm P 2 = 0 := by
  have hk : 1 = lm P 0 := by
    first | rfl | (unfold lm bm; rfl) | (simp only [lm, bm])
  have e0 : (1) * P 0 0 + (0) * P 0 1 = 0 := by
    have z : P 0 0 = 0 := hz 0 (by omega) (by omega)
    rw [z]
    omega
  have e1 : (1) * P 1 0 + (0) * P 1 1 = 0 := by
    have z : P 1 0 = 0 := hz 1 (by omega) (by omega)
    rw [z]
    omega
  have e := cr2_0 (P 0 0) (P 0 1) (P 1 0) (P 1 1) (1) (0)
  rw [e0, e1, zc2_0, hk] at e
  exact (Int.mul_eq_zero.mp e.symm).resolve_left h0
theorem zn3_0 {P : Nat → Nat → Int} (h0 : lm P 0 ≠ 0) (hz : ∀ i, 0 ≤ i → i < 3 → bm P 0 i 0 = 0) : lm P 3 = 0 := by
  have hk : 1 = lm P 0 := by
    first | rfl | (unfold lm bm; rfl) | (simp only [lm, bm])
  have e0 : (1) * P 0 0 + (0) * P 0 1 + (0) * P 0 2 = 0 := by
    have z : P 0 0 = 0 := hz 0 (by omega) (by omega)
    rw [z]
    omega
  have e1 : (1) * P 1 0 + (0) * P 1 1 + (0) * P 1 2 = 0 := by
    have z : P 1 0 = 0 := hz 1 (by omega) (by omega)
    rw [z]
    omega
  have e2 : (1) * P 2 0 + (0) * P 2 1 + (0) * P 2 2 = 0 := by
    have z : P 2 0 = 0 := hz 2 (by omega) (by omega)
    rw [z]
    omega
  have e := cr3_0 (P 0 0) (P 0 1) (P 0 2) (P 1 0) (P 1 1) (P 1 2) (P 2 0) (P 2 1) (P 2 2) (1) (0) (0)
  rw [e0, e1, e2, zc3_0, hk] at e
  exact (Int.mul_eq_zero.mp e.symm).resolve_left h0
theorem zn3_1 {P : Nat → Nat → Int} (h0 : lm P 1 ≠ 0) (hz : ∀ i, 1 ≤ i → i < 3 → bm P 1 i 1 = 0) : lm P 3 = 0 := by
  have hk : (P 0 0) = lm P 1 := by
    first | rfl | (unfold lm bm; rfl) | (simp only [lm, bm])
  have e0 : (-(P 0 1)) * P 0 0 + ((P 0 0)) * P 0 1 + (0) * P 0 2 = 0 := by
    first | grind | (unfold d2; grind)
  have e1 : (-(P 0 1)) * P 1 0 + ((P 0 0)) * P 1 1 + (0) * P 1 2 = 0 := by
    have z := hz 1 (by omega) (by omega)
    simp only [bm] at z
    unfold d2 at z
    first | grind | (unfold d2; grind)
  have e2 : (-(P 0 1)) * P 2 0 + ((P 0 0)) * P 2 1 + (0) * P 2 2 = 0 := by
    have z := hz 2 (by omega) (by omega)
    simp only [bm] at z
    unfold d2 at z
    first | grind | (unfold d2; grind)
  have e := cr3_1 (P 0 0) (P 0 1) (P 0 2) (P 1 0) (P 1 1) (P 1 2) (P 2 0) (P 2 1) (P 2 2) (-(P 0 1)) ((P 0 0)) (0)
  rw [e0, e1, e2, zc3_1, hk] at e
  exact (Int.mul_eq_zero.mp e.symm).resolve_left h0
theorem zn4_0 {P : Nat → Nat → Int} (h0 : lm P 0 ≠ 0) (hz : ∀ i, 0 ≤ i → i < 4 → bm P 0 i 0 = 0) : lm P 4 = 0 := by
  have hk : 1 = lm P 0 := by
    first | rfl | (unfold lm bm; rfl) | (simp only [lm, bm])
  have e0 : (1) * P 0 0 + (0) * P 0 1 + (0) * P 0 2 + (0) * P 0 3 = 0 := by
    have z : P 0 0 = 0 := hz 0 (by omega) (by omega)
    rw [z]
    omega
  have e1 : (1) * P 1 0 + (0) * P 1 1 + (0) * P 1 2 + (0) * P 1 3 = 0 := by
    have z : P 1 0 = 0 := hz 1 (by omega) (by omega)
    rw [z]
    omega
  have e2 : (1) * P 2 0 + (0) * P 2 1 + (0) * P 2 2 + (0) * P 2 3 = 0 := by
    have z : P 2 0 = 0 := hz 2 (by omega) (by omega)
    rw [z]
    omega
  have e3 : (1) * P 3 0 + (0) * P 3 1 + (0) * P 3 2 + (0) * P 3 3 = 0 := by
    have z : P 3 0 = 0 := hz 3 (by omega) (by omega)
    rw [z]
    omega
  have e := cr4_0 (P 0 0) (P 0 1) (P 0 2) (P 0 3) (P 1 0) (P 1 1) (P 1 2) (P 1 3) (P 2 0) (P 2 1) (P 2 2) (P 2 3) (P 3 0) (P 3 1) (P 3 2) (P 3 3) (1) (0) (0) (0)
  rw [e0, e1, e2, e3, zc4_0, hk] at e
  exact (Int.mul_eq_zero.mp e.symm).resolve_left h0
theorem zn4_1 {P : Nat → Nat → Int} (h0 : lm P 1 ≠ 0) (hz : ∀ i, 1 ≤ i → i < 4 → bm P 1 i 1 = 0) : lm P 4 = 0 := by
  have hk : (P 0 0) = lm P 1 := by
    first | rfl | (unfold lm bm; rfl) | (simp only [lm, bm])
  have e0 : (-(P 0 1)) * P 0 0 + ((P 0 0)) * P 0 1 + (0) * P 0 2 + (0) * P 0 3 = 0 := by
    first | grind | (unfold d2; grind)
  have e1 : (-(P 0 1)) * P 1 0 + ((P 0 0)) * P 1 1 + (0) * P 1 2 + (0) * P 1 3 = 0 := by
    have z := hz 1 (by omega) (by omega)
    simp only [bm] at z
    unfold d2 at z
    first | grind | (unfold d2; grind)
  have e2 : (-(P 0 1)) * P 2 0 + ((P 0 0)) * P 2 1 + (0) * P 2 2 + (0) * P 2 3 = 0 := by
    have z := hz 2 (by omega) (by omega)
    simp only [bm] at z
    unfold d2 at z
    first | grind | (unfold d2; grind)
  have e3 : (-(P 0 1)) * P 3 0 + ((P 0 0)) * P 3 1 + (0) * P 3 2 + (0) * P 3 3 = 0 := by
    have z := hz 3 (by omega) (by omega)
    simp only [bm] at z
    unfold d2 at z
    first | grind | (unfold d2; grind)
  have e := cr4_1 (P 0 0) (P 0 1) (P 0 2) (P 0 3) (P 1 0) (P 1 1) (P 1 2) (P 1 3) (P 2 0) (P 2 1) (P 2 2) (P 2 3) (P 3 0) (P 3 1) (P 3 2) (P 3 3) (-(P 0 1)) ((P 0 0)) (0) (0)
  rw [e0, e1, e2, e3, zc4_1, hk] at e
  exact (Int.mul_eq_zero.mp e.symm).resolve_left h0
theorem zn4_2 {P : Nat → Nat → Int} (h0 : lm P 2 ≠ 0) (hz : ∀ i, 2 ≤ i → i < 4 → bm P 2 i 2 = 0) : lm P 4 = 0 := by
  have hk : (d2 (P 0 0) (P 0 1) (P 1 0) (P 1 1)) = lm P 2 := by
    first | rfl | (unfold lm bm; rfl) | (simp only [lm, bm])
  have e0 : ((d2 (P 0 1) (P 0 2) (P 1 1) (P 1 2))) * P 0 0 + (-(d2 (P 0 0) (P 0 2) (P 1 0) (P 1 2))) * P 0 1 + ((d2 (P 0 0) (P 0 1) (P 1 0) (P 1 1))) * P 0 2 + (0) * P 0 3 = 0 := by
    first | grind | (unfold d2; grind)
  have e1 : ((d2 (P 0 1) (P 0 2) (P 1 1) (P 1 2))) * P 1 0 + (-(d2 (P 0 0) (P 0 2) (P 1 0) (P 1 2))) * P 1 1 + ((d2 (P 0 0) (P 0 1) (P 1 0) (P 1 1))) * P 1 2 + (0) * P 1 3 = 0 := by
    first | grind | (unfold d2; grind)
  have e2 : ((d2 (P 0 1) (P 0 2) (P 1 1) (P 1 2))) * P 2 0 + (-(d2 (P 0 0) (P 0 2) (P 1 0) (P 1 2))) * P 2 1 + ((d2 (P 0 0) (P 0 1) (P 1 0) (P 1 1))) * P 2 2 + (0) * P 2 3 = 0 := by
    have z := hz 2 (by omega) (by omega)
    simp only [bm] at z
    unfold d3 d2 at z
    first | grind | (unfold d2; grind)
  have e3 : ((d2 (P 0 1) (P 0 2) (P 1 1) (P 1 2))) * P 3 0 + (-(d2 (P 0 0) (P 0 2) (P 1 0) (P 1 2))) * P 3 1 + ((d2 (P 0 0) (P 0 1) (P 1 0) (P 1 1))) * P 3 2 + (0) * P 3 3 = 0 := by
    have z := hz 3 (by omega) (by omega)
    simp only [bm] at z
    unfold d3 d2 at z
    first | grind | (unfold d2; grind)
  have e := cr4_2 (P 0 0) (P 0 1) (P 0 2) (P 0 3) (P 1 0) (P 1 1) (P 1 2) (P 1 3) (P 2 0) (P 2 1) (P 2 2) (P 2 3) (P 3 0) (P 3 1) (P 3 2) (P 3 3) ((d2 (P 0 1) (P 0 2) (P 1 1) (P 1 2))) (-(d2 (P 0 0) (P 0 2) (P 1 0) (P 1 2))) ((d2 (P 0 0) (P 0 1) (P 1 0) (P 1 1))) (0)
  rw [e0, e1, e2, e3, zc4_2, hk] at e
  exact (Int.mul_eq_zero.mp e.symm).resolve_left h0
theorem zn5_0 {P : Nat → Nat → Int} (h0 : lm P 0 ≠ 0) (hz : ∀ i, 0 ≤ i → i < 5 → bm P 0 i 0 = 0) : lm P 5 = 0 := by
  have hk : 1 = lm P 0 := by
    first | rfl | (unfold lm bm; rfl) | (simp only [lm, bm])
  have e0 : (1) * P 0 0 + (0) * P 0 1 + (0) * P 0 2 + (0) * P 0 3 + (0) * P 0 4 = 0 := by
    have z : P 0 0 = 0 := hz 0 (by omega) (by omega)
    rw [z]
    omega
  have e1 : (1) * P 1 0 + (0) * P 1 1 + (0) * P 1 2 + (0) * P 1 3 + (0) * P 1 4 = 0 := by
    have z : P 1 0 = 0 := hz 1 (by omega) (by omega)
    rw [z]
    omega
  have e2 : (1) * P 2 0 + (0) * P 2 1 + (0) * P 2 2 + (0) * P 2 3 + (0) * P 2 4 = 0 := by
    have z : P 2 0 = 0 := hz 2 (by omega) (by omega)
    rw [z]
    omega
  have e3 : (1) * P 3 0 + (0) * P 3 1 + (0) * P 3 2 + (0) * P 3 3 + (0) * P 3 4 = 0 := by
    have z : P 3 0 = 0 := hz 3 (by omega) (by omega)
    rw [z]
    omega
  have e4 : (1) * P 4 0 + (0) * P 4 1 + (0) * P 4 2 + (0) * P 4 3 + (0) * P 4 4 = 0 := by
    have z : P 4 0 = 0 := hz 4 (by omega) (by omega)
    rw [z]
    omega
  have e := cr5_0 (P 0 0) (P 0 1) (P 0 2) (P 0 3) (P 0 4) (P 1 0) (P 1 1) (P 1 2) (P 1 3) (P 1 4) (P 2 0) (P 2 1) (P 2 2) (P 2 3) (P 2 4) (P 3 0) (P 3 1) (P 3 2) (P 3 3) (P 3 4) (P 4 0) (P 4 1) (P 4 2) (P 4 3) (P 4 4) (1) (0) (0) (0) (0)
  rw [e0, e1, e2, e3, e4, zc5_0, hk] at e
  exact (Int.mul_eq_zero.mp e.symm).resolve_left h0
theorem zn5_1 {P : Nat → Nat → Int} (h0 : lm P 1 ≠ 0) (hz : ∀ i, 1 ≤ i → i < 5 → bm P 1 i 1 = 0) : lm P 5 = 0 := by
  have hk : (P 0 0) = lm P 1 := by
    first | rfl | (unfold lm bm; rfl) | (simp only [lm, bm])
  have e0 : (-(P 0 1)) * P 0 0 + ((P 0 0)) * P 0 1 + (0) * P 0 2 + (0) * P 0 3 + (0) * P 0 4 = 0 := by
    first | grind | (unfold d2; grind)
  have e1 : (-(P 0 1)) * P 1 0 + ((P 0 0)) * P 1 1 + (0) * P 1 2 + (0) * P 1 3 + (0) * P 1 4 = 0 := by
    have z := hz 1 (by omega) (by omega)
    simp only [bm] at z
    unfold d2 at z
    first | grind | (unfold d2; grind)
  have e2 : (-(P 0 1)) * P 2 0 + ((P 0 0)) * P 2 1 + (0) * P 2 2 + (0) * P 2 3 + (0) * P 2 4 = 0 := by
    have z := hz 2 (by omega) (by omega)
    simp only [bm] at z
    unfold d2 at z
    first | grind | (unfold d2; grind)
  have e3 : (-(P 0 1)) * P 3 0 + ((P 0 0)) * P 3 1 + (0) * P 3 2 + (0) * P 3 3 + (0) * P 3 4 = 0 := by
    have z := hz 3 (by omega) (by omega)
    simp only [bm] at z
    unfold d2 at z
    first | grind | (unfold d2; grind)
  have e4 : (-(P 0 1)) * P 4 0 + ((P 0 0)) * P 4 1 + (0) * P 4 2 + (0) * P 4 3 + (0) * P 4 4 = 0 := by
    have z := hz 4 (by omega) (by omega)
    simp only [bm] at z
    unfold d2 at z
    first | grind | (unfold d2; grind)
  have e := cr5_1 (P 0 0) (P 0 1) (P 0 2) (P 0 3) (P 0 4) (P 1 0) (P 1 1) (P 1 2) (P 1 3) (P 1 4) (P 2 0) (P 2 1) (P 2 2) (P 2 3) (P 2 4) (P 3 0) (P 3 1) (P 3 2) (P 3 3) (P 3 4) (P 4 0) (P 4 1) (P 4 2) (P 4 3) (P 4 4) (-(P 0 1)) ((P 0 0)) (0) (0) (0)
  rw [e0, e1, e2, e3, e4, zc5_1, hk] at e
  exact (Int.mul_eq_zero.mp e.symm).resolve_left h0
theorem zn5_2 {P : Nat → Nat → Int} (h0 : lm P 2 ≠ 0) (hz : ∀ i, 2 ≤ i → i < 5 → bm P 2 i 2 = 0) : lm P 5 = 0 := by
  have hk : (d2 (P 0 0) (P 0 1) (P 1 0) (P 1 1)) = lm P 2 := by
    first | rfl | (unfold lm bm; rfl) | (simp only [lm, bm])
  have e0 : ((d2 (P 0 1) (P 0 2) (P 1 1) (P 1 2))) * P 0 0 + (-(d2 (P 0 0) (P 0 2) (P 1 0) (P 1 2))) * P 0 1 + ((d2 (P 0 0) (P 0 1) (P 1 0) (P 1 1))) * P 0 2 + (0) * P 0 3 + (0) * P 0 4 = 0 := by
    first | grind | (unfold d2; grind)
  have e1 : ((d2 (P 0 1) (P 0 2) (P 1 1) (P 1 2))) * P 1 0 + (-(d2 (P 0 0) (P 0 2) (P 1 0) (P 1 2))) * P 1 1 + ((d2 (P 0 0) (P 0 1) (P 1 0) (P 1 1))) * P 1 2 + (0) * P 1 3 + (0) * P 1 4 = 0 := by
    first | grind | (unfold d2; grind)
  have e2 : ((d2 (P 0 1) (P 0 2) (P 1 1) (P 1 2))) * P 2 0 + (-(d2 (P 0 0) (P 0 2) (P 1 0) (P 1 2))) * P 2 1 + ((d2 (P 0 0) (P 0 1) (P 1 0) (P 1 1))) * P 2 2 + (0) * P 2 3 + (0) * P 2 4 = 0 := by
    have z := hz 2 (by omega) (by omega)
    simp only [bm] at z
    unfold d3 d2 at z
    first | grind | (unfold d2; grind)
  have e3 : ((d2 (P 0 1) (P 0 2) (P 1 1) (P 1 2))) * P 3 0 + (-(d2 (P 0 0) (P 0 2) (P 1 0) (P 1 2))) * P 3 1 + ((d2 (P 0 0) (P 0 1) (P 1 0) (P 1 1))) * P 3 2 + (0) * P 3 3 + (0) * P 3 4 = 0 := by
    have z := hz 3 (by omega) (by omega)
    simp only [bm] at z
    unfold d3 d2 at z
    first | grind | (unfold d2; grind)
  have e4 : ((d2 (P 0 1) (P 0 2) (P 1 1) (P 1 2))) * P 4 0 + (-(d2 (P 0 0) (P 0 2) (P 1 0) (P 1 2))) * P 4 1 + ((d2 (P 0 0) (P 0 1) (P 1 0) (P 1 1))) * P 4 2 + (0) * P 4 3 + (0) * P 4 4 = 0 := by
    have z := hz 4 (by omega) (by omega)
    simp only [bm] at z
    unfold d3 d2 at z
    first | grind | (unfold d2; grind)
  have e := cr5_2 (P 0 0) (P 0 1) (P 0 2) (P 0 3) (P 0 4) (P 1 0) (P 1 1) (P 1 2) (P 1 3) (P 1 4) (P 2 0) (P 2 1) (P 2 2) (P 2 3) (P 2 4) (P 3 0) (P 3 1) (P 3 2) (P 3 3) (P 3 4) (P 4 0) (P 4 1) (P 4 2) (P 4 3) (P 4 4) ((d2 (P 0 1) (P 0 2) (P 1 1) (P 1 2))) (-(d2 (P 0 0) (P 0 2) (P 1 0) (P 1 2))) ((d2 (P 0 0) (P 0 1) (P 1 0) (P 1 1))) (0) (0)
  rw [e0, e1, e2, e3, e4, zc5_2, hk] at e
  exact (Int.mul_eq_zero.mp e.symm).resolve_left h0
theorem zn5_3 {P : Nat → Nat → Int} (h0 : lm P 3 ≠ 0) (hz : ∀ i, 3 ≤ i → i < 5 → bm P 3 i 3 = 0) : lm P 5 = 0 := by
  have hk : (d3 (P 0 0) (P 0 1) (P 0 2) (P 1 0) (P 1 1) (P 1 2) (P 2 0) (P 2 1) (P 2 2)) = lm P 3 := by
    first | rfl | (unfold lm bm; rfl) | (simp only [lm, bm])
  have e0 : (-(d3 (P 0 1) (P 0 2) (P 0 3) (P 1 1) (P 1 2) (P 1 3) (P 2 1) (P 2 2) (P 2 3))) * P 0 0 + ((d3 (P 0 0) (P 0 2) (P 0 3) (P 1 0) (P 1 2) (P 1 3) (P 2 0) (P 2 2) (P 2 3))) * P 0 1 + (-(d3 (P 0 0) (P 0 1) (P 0 3) (P 1 0) (P 1 1) (P 1 3) (P 2 0) (P 2 1) (P 2 3))) * P 0 2 + ((d3 (P 0 0) (P 0 1) (P 0 2) (P 1 0) (P 1 1) (P 1 2) (P 2 0) (P 2 1) (P 2 2))) * P 0 3 + (0) * P 0 4 = 0 := by
    first | grind | (unfold d3 d2; grind)
  have e1 : (-(d3 (P 0 1) (P 0 2) (P 0 3) (P 1 1) (P 1 2) (P 1 3) (P 2 1) (P 2 2) (P 2 3))) * P 1 0 + ((d3 (P 0 0) (P 0 2) (P 0 3) (P 1 0) (P 1 2) (P 1 3) (P 2 0) (P 2 2) (P 2 3))) * P 1 1 + (-(d3 (P 0 0) (P 0 1) (P 0 3) (P 1 0) (P 1 1) (P 1 3) (P 2 0) (P 2 1) (P 2 3))) * P 1 2 + ((d3 (P 0 0) (P 0 1) (P 0 2) (P 1 0) (P 1 1) (P 1 2) (P 2 0) (P 2 1) (P 2 2))) * P 1 3 + (0) * P 1 4 = 0 := by
    first | grind | (unfold d3 d2; grind)
  have e2 : (-(d3 (P 0 1) (P 0 2) (P 0 3) (P 1 1) (P 1 2) (P 1 3) (P 2 1) (P 2 2) (P 2 3))) * P 2 0 + ((d3 (P 0 0) (P 0 2) (P 0 3) (P 1 0) (P 1 2) (P 1 3) (P 2 0) (P 2 2) (P 2 3))) * P 2 1 + (-(d3 (P 0 0) (P 0 1) (P 0 3) (P 1 0) (P 1 1) (P 1 3) (P 2 0) (P 2 1) (P 2 3))) * P 2 2 + ((d3 (P 0 0) (P 0 1) (P 0 2) (P 1 0) (P 1 1) (P 1 2) (P 2 0) (P 2 1) (P 2 2))) * P 2 3 + (0) * P 2 4 = 0 := by
    first | grind | (unfold d3 d2; grind)
  have e3 : (-(d3 (P 0 1) (P 0 2) (P 0 3) (P 1 1) (P 1 2) (P 1 3) (P 2 1) (P 2 2) (P 2 3))) * P 3 0 + ((d3 (P 0 0) (P 0 2) (P 0 3) (P 1 0) (P 1 2) (P 1 3) (P 2 0) (P 2 2) (P 2 3))) * P 3 1 + (-(d3 (P 0 0) (P 0 1) (P 0 3) (P 1 0) (P 1 1) (P 1 3) (P 2 0) (P 2 1) (P 2 3))) * P 3 2 + ((d3 (P 0 0) (P 0 1) (P 0 2) (P 1 0) (P 1 1) (P 1 2) (P 2 0) (P 2 1) (P 2 2))) * P 3 3 + (0) * P 3 4 = 0 := by
    have z := hz 3 (by omega) (by omega)
    simp only [bm] at z
    unfold d4 d3 d2 at z
    first | grind | (unfold d3 d2; grind)
  have e4 : (-(d3 (P 0 1) (P 0 2) (P 0 3) (P 1 1) (P 1 2) (P 1 3) (P 2 1) (P 2 2) (P 2 3))) * P 4 0 + ((d3 (P 0 0) (P 0 2) (P 0 3) (P 1 0) (P 1 2) (P 1 3) (P 2 0) (P 2 2) (P 2 3))) * P 4 1 + (-(d3 (P 0 0) (P 0 1) (P 0 3) (P 1 0) (P 1 1) (P 1 3) (P 2 0) (P 2 1) (P 2 3))) * P 4 2 + ((d3 (P 0 0) (P 0 1) (P 0 2) (P 1 0) (P 1 1) (P 1 2) (P 2 0) (P 2 1) (P 2 2))) * P 4 3 + (0) * P 4 4 = 0 := by
    have z := hz 4 (by omega) (by omega)
    simp only [bm] at z
    unfold d4 d3 d2 at z
    first | grind | (unfold d3 d2; grind)
  have e := cr5_3 (P 0 0) (P 0 1) (P 0 2) (P 0 3) (P 0 4) (P 1 0) (P 1 1) (P 1 2) (P 1 3) (P 1 4) (P 2 0) (P 2 1) (P 2 2) (P 2 3) (P 2 4) (P 3 0) (P 3 1) (P 3 2) (P 3 3) (P 3 4) (P 4 0) (P 4 1) (P 4 2) (P 4 3) (P 4 4) (-(d3 (P 0 1) (P 0 2) (P 0 3) (P 1 1) (P 1 2) (P 1 3) (P 2 1) (P 2 2) (P 2 3))) ((d3 (P 0 0) (P 0 2) (P 0 3) (P 1 0) (P 1 2) (P 1 3) (P 2 0) (P 2 2) (P 2 3))) (-(d3 (P 0 0) (P 0 1) (P 0 3) (P 1 0) (P 1 1) (P 1 3) (P 2 0) (P 2 1) (P 2 3))) ((d3 (P 0 0) (P 0 1) (P 0 2) (P 1 0) (P 1 1) (P 1 2) (P 2 0) (P 2 1) (P 2 2))) (0)
  rw [e0, e1, e2, e3, e4, zc5_3, hk] at e
  exact (Int.mul_eq_zero.mp e.symm).resolve_left h0

