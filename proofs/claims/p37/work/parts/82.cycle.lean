/-! ===== a row and its column moved to the end ===== -/
def cyP (m p i : Nat) : Nat := if i < p then i else if i + 1 < m then i + 1 else p
theorem cy2_0 (x00 x01 x10 x11 : Int) : d2 x11 x10 x01 x00 = d2 x00 x01 x10 x11 := by
  unfold d2
  grind
theorem lcy2_0 (P : Nat → Nat → Int) : lm (fun i j => P (cyP 2 0 i) (cyP 2 0 j)) 2 = lm P 2 := by
  simp only [lm, bm, show cyP 2 0 0 = 1 from rfl, show cyP 2 0 1 = 0 from rfl]
  exact cy2_0 (P 0 0) (P 0 1) (P 1 0) (P 1 1)
theorem cy3_0 (x00 x01 x02 x10 x11 x12 x20 x21 x22 : Int) : d3 x11 x12 x10 x21 x22 x20 x01 x02 x00 = d3 x00 x01 x02 x10 x11 x12 x20 x21 x22 := by
  unfold d3 d2
  grind
theorem lcy3_0 (P : Nat → Nat → Int) : lm (fun i j => P (cyP 3 0 i) (cyP 3 0 j)) 3 = lm P 3 := by
  simp only [lm, bm, show cyP 3 0 0 = 1 from rfl, show cyP 3 0 1 = 2 from rfl, show cyP 3 0 2 = 0 from rfl]
  exact cy3_0 (P 0 0) (P 0 1) (P 0 2) (P 1 0) (P 1 1) (P 1 2) (P 2 0) (P 2 1) (P 2 2)
theorem cy3_1 (x00 x01 x02 x10 x11 x12 x20 x21 x22 : Int) : d3 x00 x02 x01 x20 x22 x21 x10 x12 x11 = d3 x00 x01 x02 x10 x11 x12 x20 x21 x22 := by
  unfold d3 d2
  grind
theorem lcy3_1 (P : Nat → Nat → Int) : lm (fun i j => P (cyP 3 1 i) (cyP 3 1 j)) 3 = lm P 3 := by
  simp only [lm, bm, show cyP 3 1 0 = 0 from rfl, show cyP 3 1 1 = 2 from rfl, show cyP 3 1 2 = 1 from rfl]
  exact cy3_1 (P 0 0) (P 0 1) (P 0 2) (P 1 0) (P 1 1) (P 1 2) (P 2 0) (P 2 1) (P 2 2)
theorem cy4_0 (x00 x01 x02 x03 x10 x11 x12 x13 x20 x21 x22 x23 x30 x31 x32 x33 : Int) : d4 x11 x12 x13 x10 x21 x22 x23 x20 x31 x32 x33 x30 x01 x02 x03 x00 = d4 x00 x01 x02 x03 x10 x11 x12 x13 x20 x21 x22 x23 x30 x31 x32 x33 := by
  unfold d4 d3 d2
  grind
theorem lcy4_0 (P : Nat → Nat → Int) : lm (fun i j => P (cyP 4 0 i) (cyP 4 0 j)) 4 = lm P 4 := by
  simp only [lm, bm, show cyP 4 0 0 = 1 from rfl, show cyP 4 0 1 = 2 from rfl, show cyP 4 0 2 = 3 from rfl, show cyP 4 0 3 = 0 from rfl]
  exact cy4_0 (P 0 0) (P 0 1) (P 0 2) (P 0 3) (P 1 0) (P 1 1) (P 1 2) (P 1 3) (P 2 0) (P 2 1) (P 2 2) (P 2 3) (P 3 0) (P 3 1) (P 3 2) (P 3 3)
theorem cy4_1 (x00 x01 x02 x03 x10 x11 x12 x13 x20 x21 x22 x23 x30 x31 x32 x33 : Int) : d4 x00 x02 x03 x01 x20 x22 x23 x21 x30 x32 x33 x31 x10 x12 x13 x11 = d4 x00 x01 x02 x03 x10 x11 x12 x13 x20 x21 x22 x23 x30 x31 x32 x33 := by
  unfold d4 d3 d2
  grind
theorem lcy4_1 (P : Nat → Nat → Int) : lm (fun i j => P (cyP 4 1 i) (cyP 4 1 j)) 4 = lm P 4 := by
  simp only [lm, bm, show cyP 4 1 0 = 0 from rfl, show cyP 4 1 1 = 2 from rfl, show cyP 4 1 2 = 3 from rfl, show cyP 4 1 3 = 1 from rfl]
  exact cy4_1 (P 0 0) (P 0 1) (P 0 2) (P 0 3) (P 1 0) (P 1 1) (P 1 2) (P 1 3) (P 2 0) (P 2 1) (P 2 2) (P 2 3) (P 3 0) (P 3 1) (P 3 2) (P 3 3)
theorem cy4_2 (x00 x01 x02 x03 x10 x11 x12 x13 x20 x21 x22 x23 x30 x31 x32 x33 : Int) : d4 x00 x01 x03 x02 x10 x11 x13 x12 x30 x31 x33 x32 x20 x21 x23 x22 = d4 x00 x01 x02 x03 x10 x11 x12 x13 x20 x21 x22 x23 x30 x31 x32 x33 := by
  unfold d4 d3 d2
  grind
theorem lcy4_2 (P : Nat → Nat → Int) : lm (fun i j => P (cyP 4 2 i) (cyP 4 2 j)) 4 = lm P 4 := by
  simp only [lm, bm, show cyP 4 2 0 = 0 from rfl, show cyP 4 2 1 = 1 from rfl, show cyP 4 2 2 = 3 from rfl, show cyP 4 2 3 = 2 from rfl]
  exact cy4_2 (P 0 0) (P 0 1) (P 0 2) (P 0 3) (P 1 0) (P 1 1) (P 1 2) (P 1 3) (P 2 0) (P 2 1) (P 2 2) (P 2 3) (P 3 0) (P 3 1) (P 3 2) (P 3 3)
set_option maxRecDepth 100000 in
set_option maxHeartbeats 4000000 in
theorem cy5_0 (x00 x01 x02 x03 x04 x10 x11 x12 x13 x14 x20 x21 x22 x23 x24 x30 x31 x32 x33 x34 x40 x41 x42 x43 x44 : Int) : d5 x11 x12 x13 x14 x10 x21 x22 x23 x24 x20 x31 x32 x33 x34 x30 x41 x42 x43 x44 x40 x01 x02 x03 x04 x00 = d5 x00 x01 x02 x03 x04 x10 x11 x12 x13 x14 x20 x21 x22 x23 x24 x30 x31 x32 x33 x34 x40 x41 x42 x43 x44 := by
  unfold d5 d4 d3 d2
  grind
theorem lcy5_0 (P : Nat → Nat → Int) : lm (fun i j => P (cyP 5 0 i) (cyP 5 0 j)) 5 = lm P 5 := by
  simp only [lm, bm, show cyP 5 0 0 = 1 from rfl, show cyP 5 0 1 = 2 from rfl, show cyP 5 0 2 = 3 from rfl, show cyP 5 0 3 = 4 from rfl, show cyP 5 0 4 = 0 from rfl]
  exact cy5_0 (P 0 0) (P 0 1) (P 0 2) (P 0 3) (P 0 4) (P 1 0) (P 1 1) (P 1 2) (P 1 3) (P 1 4) (P 2 0) (P 2 1) (P 2 2) (P 2 3) (P 2 4) (P 3 0) (P 3 1) (P 3 2) (P 3 3) (P 3 4) (P 4 0) (P 4 1) (P 4 2) (P 4 3) (P 4 4)
set_option maxRecDepth 100000 in
set_option maxHeartbeats 4000000 in
theorem cy5_1 (x00 x01 x02 x03 x04 x10 x11 x12 x13 x14 x20 x21 x22 x23 x24 x30 x31 x32 x33 x34 x40 x41 x42 x43 x44 : Int) : d5 x00 x02 x03 x04 x01 x20 x22 x23 x24 x21 x30 x32 x33 x34 x31 x40 x42 x43 x44 x41 x10 x12 x13 x14 x11 = d5 x00 x01 x02 x03 x04 x10 x11 x12 x13 x14 x20 x21 x22 x23 x24 x30 x31 x32 x33 x34 x40 x41 x42 x43 x44 := by
  unfold d5 d4 d3 d2
  grind
theorem lcy5_1 (P : Nat → Nat → Int) : lm (fun i j => P (cyP 5 1 i) (cyP 5 1 j)) 5 = lm P 5 := by
  simp only [lm, bm, show cyP 5 1 0 = 0 from rfl, show cyP 5 1 1 = 2 from rfl, show cyP 5 1 2 = 3 from rfl, show cyP 5 1 3 = 4 from rfl, show cyP 5 1 4 = 1 from rfl]
  exact cy5_1 (P 0 0) (P 0 1) (P 0 2) (P 0 3) (P 0 4) (P 1 0) (P 1 1) (P 1 2) (P 1 3) (P 1 4) (P 2 0) (P 2 1) (P 2 2) (P 2 3) (P 2 4) (P 3 0) (P 3 1) (P 3 2) (P 3 3) (P 3 4) (P 4 0) (P 4 1) (P 4 2) (P 4 3) (P 4 4)
set_option maxRecDepth 100000 in
set_option maxHeartbeats 4000000 in
theorem cy5_2 (x00 x01 x02 x03 x04 x10 x11 x12 x13 x14 x20 x21 x22 x23 x24 x30 x31 x32 x33 x34 x40 x41 x42 x43 x44 : Int) : d5 x00 x01 x03 x04 x02 x10 x11 x13 x14 x12 x30 x31 x33 x34 x32 x40 x41 x43 x44 x42 x20 x21 x23 x24 x22 = d5 x00 x01 x02 x03 x04 x10 x11 x12 x13 x14 x20 x21 x22 x23 x24 x30 x31 x32 x33 x34 x40 x41 x42 x43 x44 := by
  unfold d5 d4 d3 d2
  grind
theorem lcy5_2 (P : Nat → Nat → Int) : lm (fun i j => P (cyP 5 2 i) (cyP 5 2 j)) 5 = lm P 5 := by
  simp only [lm, bm, show cyP 5 2 0 = 0 from rfl, show cyP 5 2 1 = 1 from rfl, show cyP 5 2 2 = 3 from rfl, show cyP 5 2 3 = 4 from rfl, show cyP 5 2 4 = 2 from rfl]
  exact cy5_2 (P 0 0) (P 0 1) (P 0 2) (P 0 3) (P 0 4) (P 1 0) (P 1 1) (P 1 2) (P 1 3) (P 1 4) (P 2 0) (P 2 1) (P 2 2) (P 2 3) (P 2 4) (P 3 0) (P 3 1) (P 3 2) (P 3 3) (P 3 4) (P 4 0) (P 4 1) (P 4 2) (P 4 3) (P 4 4)
set_option maxRecDepth 100000 in
set_option maxHeartbeats 4000000 in
theorem cy5_3 (x00 x01 x02 x03 x04 x10 x11 x12 x13 x14 x20 x21 x22 x23 x24 x30 x31 x32 x33 x34 x40 x41 x42 x43 x44 : Int) : d5 x00 x01 x02 x04 x03 x10 x11 x12 x14 x13 x20 x21 x22 x24 x23 x40 x41 x42 x44 x43 x30 x31 x32 x34 x33 = d5 x00 x01 x02 x03 x04 x10 x11 x12 x13 x14 x20 x21 x22 x23 x24 x30 x31 x32 x33 x34 x40 x41 x42 x43 x44 := by
  unfold d5 d4 d3 d2
  grind
theorem lcy5_3 (P : Nat → Nat → Int) : lm (fun i j => P (cyP 5 3 i) (cyP 5 3 j)) 5 = lm P 5 := by
  simp only [lm, bm, show cyP 5 3 0 = 0 from rfl, show cyP 5 3 1 = 1 from rfl, show cyP 5 3 2 = 2 from rfl, show cyP 5 3 3 = 4 from rfl, show cyP 5 3 4 = 3 from rfl]
  exact cy5_3 (P 0 0) (P 0 1) (P 0 2) (P 0 3) (P 0 4) (P 1 0) (P 1 1) (P 1 2) (P 1 3) (P 1 4) (P 2 0) (P 2 1) (P 2 2) (P 2 3) (P 2 4) (P 3 0) (P 3 1) (P 3 2) (P 3 3) (P 3 4) (P 4 0) (P 4 1) (P 4 2) (P 4 3) (P 4 4)
theorem lm_cong {A B : Nat → Nat → Int} {m : Nat} (hm : m ≤ 5) (h : ∀ i j, i < m → j < m → A i j = B i j) : lm A m = lm B m := by
  rw [lm_dt A hm, lm_dt B hm]
  have key : ∀ n (A B : Nat → Nat → Int), (∀ i j, i < n → j < n → A i j = B i j) → dt n A = dt n B := by
    intro n
    induction n with
    | zero => exact fun _ _ _ => rfl
    | succ n ih =>
      intro A B h
      have e : ∀ c, c ≤ n + 1 → alS (fun c => A 0 c * dt n (mnr A c)) c = alS (fun c => B 0 c * dt n (mnr B c)) c := by
        intro c
        induction c with
        | zero => exact fun _ => rfl
        | succ c ihc =>
          intro hc
          have e1 := h 0 c (by omega) (by omega)
          have e2 := ih (mnr A c) (mnr B c) (fun i j hi hj => h (i + 1) (if j < c then j else j + 1) (by omega) (by split <;> omega))
          show alS (fun c => A 0 c * dt n (mnr A c)) c + (if c % 2 = 0 then A 0 c * dt n (mnr A c) else -(A 0 c * dt n (mnr A c))) = alS (fun c => B 0 c * dt n (mnr B c)) c + (if c % 2 = 0 then B 0 c * dt n (mnr B c) else -(B 0 c * dt n (mnr B c)))
          rw [ihc (by omega), e1, e2]
      exact e (n + 1) (Nat.le_refl _)
  refine key m _ _ (fun i j hi hj => h _ _ ?_ ?_)
  · split <;> omega
  · split <;> omega
theorem lm_cy (P : Nat → Nat → Int) {m p : Nat} (hm : m ≤ 5) (hp : p < m) : lm (fun i j => P (cyP m p i) (cyP m p j)) m = lm P m := by
  by_cases c : p + 1 = m
  · refine lm_cong hm (fun i j hi hj => ?_)
    show P (cyP m p i) (cyP m p j) = P i j
    have e : ∀ i, i < m → cyP m p i = i := by
      intro i hi
      unfold cyP
      (repeat' split) <;> omega
    rw [e i hi, e j hj]
  · rcases (show (m = 2 ∧ p = 0) ∨ (m = 3 ∧ p = 0) ∨ (m = 3 ∧ p = 1) ∨ (m = 4 ∧ p = 0) ∨ (m = 4 ∧ p = 1) ∨ (m = 4 ∧ p = 2) ∨ (m = 5 ∧ p = 0) ∨ (m = 5 ∧ p = 1) ∨ (m = 5 ∧ p = 2) ∨ (m = 5 ∧ p = 3) by omega) with ⟨rfl, rfl⟩ | ⟨rfl, rfl⟩ | ⟨rfl, rfl⟩ | ⟨rfl, rfl⟩ | ⟨rfl, rfl⟩ | ⟨rfl, rfl⟩ | ⟨rfl, rfl⟩ | ⟨rfl, rfl⟩ | ⟨rfl, rfl⟩ | ⟨rfl, rfl⟩
    · exact lcy2_0 P
    · exact lcy3_0 P
    · exact lcy3_1 P
    · exact lcy4_0 P
    · exact lcy4_1 P
    · exact lcy4_2 P
    · exact lcy5_0 P
    · exact lcy5_1 P
    · exact lcy5_2 P
    · exact lcy5_3 P
theorem tr2 (x00 x01 x10 x11 : Int) : d2 x00 x10 x01 x11 = d2 x00 x01 x10 x11 := by
  unfold d2
  grind
theorem tr3 (x00 x01 x02 x10 x11 x12 x20 x21 x22 : Int) : d3 x00 x10 x20 x01 x11 x21 x02 x12 x22 = d3 x00 x01 x02 x10 x11 x12 x20 x21 x22 := by
  unfold d3 d2
  grind
theorem tr4 (x00 x01 x02 x03 x10 x11 x12 x13 x20 x21 x22 x23 x30 x31 x32 x33 : Int) : d4 x00 x10 x20 x30 x01 x11 x21 x31 x02 x12 x22 x32 x03 x13 x23 x33 = d4 x00 x01 x02 x03 x10 x11 x12 x13 x20 x21 x22 x23 x30 x31 x32 x33 := by
  unfold d4 d3 d2
  grind
set_option maxRecDepth 100000 in
set_option maxHeartbeats 4000000 in
theorem tr5 (x00 x01 x02 x03 x04 x10 x11 x12 x13 x14 x20 x21 x22 x23 x24 x30 x31 x32 x33 x34 x40 x41 x42 x43 x44 : Int) : d5 x00 x10 x20 x30 x40 x01 x11 x21 x31 x41 x02 x12 x22 x32 x42 x03 x13 x23 x33 x43 x04 x14 x24 x34 x44 = d5 x00 x01 x02 x03 x04 x10 x11 x12 x13 x14 x20 x21 x22 x23 x24 x30 x31 x32 x33 x34 x40 x41 x42 x43 x44 := by
  unfold d5 d4 d3 d2
  grind
theorem bm_sym {A : Nat → Nat → Int} {n : Nat} (h : ∀ i j, i < n → j < n → A i j = A j i) {k i j : Nat} (hk4 : k ≤ 4) (hk : k ≤ n) (hi : i < n) (hj : j < n) : bm A k i j = bm A k j i := by
  rcases (show k = 0 ∨ k = 1 ∨ k = 2 ∨ k = 3 ∨ k = 4 by omega) with rfl | rfl | rfl | rfl | rfl
  · exact h i j hi hj
  · have e := tr2 (A 0 0) (A 0 i) (A j 0) (A j i)
    refine Eq.trans ?_ e
    show d2 (A 0 0) (A 0 j) (A i 0) (A i j) = d2 (A 0 0) (A j 0) (A 0 i) (A j i)
    have q0 := h 0 j (by omega) hj
    have q1 := h i 0 hi (by omega)
    have q2 := h i j hi hj
    congr 1
  · have e := tr3 (A 0 0) (A 0 1) (A 0 i) (A 1 0) (A 1 1) (A 1 i) (A j 0) (A j 1) (A j i)
    refine Eq.trans ?_ e
    show d3 (A 0 0) (A 0 1) (A 0 j) (A 1 0) (A 1 1) (A 1 j) (A i 0) (A i 1) (A i j) = d3 (A 0 0) (A 1 0) (A j 0) (A 0 1) (A 1 1) (A j 1) (A 0 i) (A 1 i) (A j i)
    have q0 := h 0 1 (by omega) (by omega)
    have q1 := h 0 j (by omega) hj
    have q2 := h 1 0 (by omega) (by omega)
    have q3 := h 1 j (by omega) hj
    have q4 := h i 0 hi (by omega)
    have q5 := h i 1 hi (by omega)
    have q6 := h i j hi hj
    congr 1
  · have e := tr4 (A 0 0) (A 0 1) (A 0 2) (A 0 i) (A 1 0) (A 1 1) (A 1 2) (A 1 i) (A 2 0) (A 2 1) (A 2 2) (A 2 i) (A j 0) (A j 1) (A j 2) (A j i)
    refine Eq.trans ?_ e
    show d4 (A 0 0) (A 0 1) (A 0 2) (A 0 j) (A 1 0) (A 1 1) (A 1 2) (A 1 j) (A 2 0) (A 2 1) (A 2 2) (A 2 j) (A i 0) (A i 1) (A i 2) (A i j) = d4 (A 0 0) (A 1 0) (A 2 0) (A j 0) (A 0 1) (A 1 1) (A 2 1) (A j 1) (A 0 2) (A 1 2) (A 2 2) (A j 2) (A 0 i) (A 1 i) (A 2 i) (A j i)
    have q0 := h 0 1 (by omega) (by omega)
    have q1 := h 0 2 (by omega) (by omega)
    have q2 := h 0 j (by omega) hj
    have q3 := h 1 0 (by omega) (by omega)
    have q4 := h 1 2 (by omega) (by omega)
    have q5 := h 1 j (by omega) hj
    have q6 := h 2 0 (by omega) (by omega)
    have q7 := h 2 1 (by omega) (by omega)
    have q8 := h 2 j (by omega) hj
    have q9 := h i 0 hi (by omega)
    have q10 := h i 1 hi (by omega)
    have q11 := h i 2 hi (by omega)
    have q12 := h i j hi hj
    congr 1
  · have e := tr5 (A 0 0) (A 0 1) (A 0 2) (A 0 3) (A 0 i) (A 1 0) (A 1 1) (A 1 2) (A 1 3) (A 1 i) (A 2 0) (A 2 1) (A 2 2) (A 2 3) (A 2 i) (A 3 0) (A 3 1) (A 3 2) (A 3 3) (A 3 i) (A j 0) (A j 1) (A j 2) (A j 3) (A j i)
    refine Eq.trans ?_ e
    show d5 (A 0 0) (A 0 1) (A 0 2) (A 0 3) (A 0 j) (A 1 0) (A 1 1) (A 1 2) (A 1 3) (A 1 j) (A 2 0) (A 2 1) (A 2 2) (A 2 3) (A 2 j) (A 3 0) (A 3 1) (A 3 2) (A 3 3) (A 3 j) (A i 0) (A i 1) (A i 2) (A i 3) (A i j) = d5 (A 0 0) (A 1 0) (A 2 0) (A 3 0) (A j 0) (A 0 1) (A 1 1) (A 2 1) (A 3 1) (A j 1) (A 0 2) (A 1 2) (A 2 2) (A 3 2) (A j 2) (A 0 3) (A 1 3) (A 2 3) (A 3 3) (A j 3) (A 0 i) (A 1 i) (A 2 i) (A 3 i) (A j i)
    have q0 := h 0 1 (by omega) (by omega)
    have q1 := h 0 2 (by omega) (by omega)
    have q2 := h 0 3 (by omega) (by omega)
    have q3 := h 0 j (by omega) hj
    have q4 := h 1 0 (by omega) (by omega)
    have q5 := h 1 2 (by omega) (by omega)
    have q6 := h 1 3 (by omega) (by omega)
    have q7 := h 1 j (by omega) hj
    have q8 := h 2 0 (by omega) (by omega)
    have q9 := h 2 1 (by omega) (by omega)
    have q10 := h 2 3 (by omega) (by omega)
    have q11 := h 2 j (by omega) hj
    have q12 := h 3 0 (by omega) (by omega)
    have q13 := h 3 1 (by omega) (by omega)
    have q14 := h 3 2 (by omega) (by omega)
    have q15 := h 3 j (by omega) hj
    have q16 := h i 0 hi (by omega)
    have q17 := h i 1 hi (by omega)
    have q18 := h i 2 hi (by omega)
    have q19 := h i 3 hi (by omega)
    have q20 := h i j hi hj
    congr 1
theorem zr_all {A : Nat → Nat → Int} {n k : Nat} (hn : n ≤ 5) (hk : k < n) (hs : ∀ i j, i < n → j < n → A i j = A j i) (h0 : lm A k ≠ 0) (hz : ∀ j, k ≤ j → j < n → bm A k k j = 0) : lm A n = 0 :=
  zn_all hn hk h0 (fun i hi hin => by rw [bm_sym hs (by omega) (by omega) hin hk]; exact hz i hi hin)

