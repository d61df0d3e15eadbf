/-! ===== the reference: a determinant is a minor, the rest ===== -/
theorem zn_all {P : Nat → Nat → Int} {n k : Nat} (hn : n ≤ 5) (hk : k < n) (h0 : lm P k ≠ 0) (hz : ∀ i, k ≤ i → i < n → bm P k i k = 0) : lm P n = 0 := by
  by_cases c : k + 1 = n
  · subst c
    exact hz k (by omega) (by omega)
  · rcases (show (n = 2 ∧ k = 0) ∨ (n = 3 ∧ k = 0) ∨ (n = 3 ∧ k = 1) ∨ (n = 4 ∧ k = 0) ∨ (n = 4 ∧ k = 1) ∨ (n = 4 ∧ k = 2) ∨ (n = 5 ∧ k = 0) ∨ (n = 5 ∧ k = 1) ∨ (n = 5 ∧ k = 2) ∨ (n = 5 ∧ k = 3) by omega) with ⟨rfl, rfl⟩ | ⟨rfl, rfl⟩ | ⟨rfl, rfl⟩ | ⟨rfl, rfl⟩ | ⟨rfl, rfl⟩ | ⟨rfl, rfl⟩ | ⟨rfl, rfl⟩ | ⟨rfl, rfl⟩ | ⟨rfl, rfl⟩ | ⟨rfl, rfl⟩
    · exact zn2_0 h0 hz
    · exact zn3_0 h0 hz
    · exact zn3_1 h0 hz
    · exact zn4_0 h0 hz
    · exact zn4_1 h0 hz
    · exact zn4_2 h0 hz
    · exact zn5_0 h0 hz
    · exact zn5_1 h0 hz
    · exact zn5_2 h0 hz
    · exact zn5_3 h0 hz
theorem swA_s {P : Nat → Nat → Int} {k : Nat} : swA P k k = P := by
  funext i
  unfold swA
  split <;> simp_all
theorem swA_lo {P : Nat → Nat → Int} {k r a : Nat} (hr : k ≤ r) (ha : a < k) : swA P k r a = P a := by
  rw [swA, if_neg (by omega), if_neg (by omega)]
theorem bm_sw {P : Nat → Nat → Int} {k r i j : Nat} (hk : k ≤ 4) (hr : k ≤ r) : bm (swA P k r) k i j = swA (fun a => bm P k a) k r i j := by
  have hb : bm (swA P k r) k i j = bm P k (if i = k then r else if i = r then k else i) j := by
    have hi : swA P k r i = P (if i = k then r else if i = r then k else i) := by
      unfold swA
      split
      · rfl
      · split <;> rfl
    rcases (show k = 0 ∨ k = 1 ∨ k = 2 ∨ k = 3 ∨ k = 4 by omega) with rfl | rfl | rfl | rfl | rfl
    all_goals (simp only [bm, hi]; try simp only [swA_lo (P := P) hr (show 0 < _ by decide)])
    · simp only [swA_lo (P := P) hr (show 1 < _ by decide)]
    · simp only [swA_lo (P := P) hr (show 1 < _ by decide), swA_lo (P := P) hr (show 2 < _ by decide)]
    · simp only [swA_lo (P := P) hr (show 1 < _ by decide), swA_lo (P := P) hr (show 2 < _ by decide), swA_lo (P := P) hr (show 3 < _ by decide)]
  rw [hb]
  unfold swA
  split
  · rfl
  · split <;> rfl
theorem lm_lo {P : Nat → Nat → Int} {k r : Nat} (hk : k ≤ 5) (hr : k ≤ r) : lm (swA P k r) k = lm P k := by
  rcases (show k = 0 ∨ k = 1 ∨ k = 2 ∨ k = 3 ∨ k = 4 ∨ k = 5 by omega) with rfl | rfl | rfl | rfl | rfl | rfl
  · rfl
  all_goals (simp only [lm, bm, swA_lo (P := P) hr (show 0 < _ by decide)])
  · simp only [swA_lo (P := P) hr (show 1 < _ by decide)]
  · simp only [swA_lo (P := P) hr (show 1 < _ by decide), swA_lo (P := P) hr (show 2 < _ by decide)]
  · simp only [swA_lo (P := P) hr (show 1 < _ by decide), swA_lo (P := P) hr (show 2 < _ by decide), swA_lo (P := P) hr (show 3 < _ by decide)]
  · simp only [swA_lo (P := P) hr (show 1 < _ by decide), swA_lo (P := P) hr (show 2 < _ by decide), swA_lo (P := P) hr (show 3 < _ by decide), swA_lo (P := P) hr (show 4 < _ by decide)]
theorem lsw2_01 {P : Nat → Nat → Int} : lm (swA P 0 1) 2 = -lm P 2 := by
  simp only [lm, bm, show swA P 0 1 0 = P 1 from rfl, show swA P 0 1 1 = P 0 from rfl]
  exact sw2_01 (P 0 0) (P 0 1) (P 1 0) (P 1 1)
theorem lsw3_01 {P : Nat → Nat → Int} : lm (swA P 0 1) 3 = -lm P 3 := by
  simp only [lm, bm, show swA P 0 1 0 = P 1 from rfl, show swA P 0 1 1 = P 0 from rfl, show swA P 0 1 2 = P 2 from rfl]
  exact sw3_01 (P 0 0) (P 0 1) (P 0 2) (P 1 0) (P 1 1) (P 1 2) (P 2 0) (P 2 1) (P 2 2)
theorem lsw3_02 {P : Nat → Nat → Int} : lm (swA P 0 2) 3 = -lm P 3 := by
  simp only [lm, bm, show swA P 0 2 0 = P 2 from rfl, show swA P 0 2 1 = P 1 from rfl, show swA P 0 2 2 = P 0 from rfl]
  exact sw3_02 (P 0 0) (P 0 1) (P 0 2) (P 1 0) (P 1 1) (P 1 2) (P 2 0) (P 2 1) (P 2 2)
theorem lsw3_12 {P : Nat → Nat → Int} : lm (swA P 1 2) 3 = -lm P 3 := by
  simp only [lm, bm, show swA P 1 2 0 = P 0 from rfl, show swA P 1 2 1 = P 2 from rfl, show swA P 1 2 2 = P 1 from rfl]
  exact sw3_12 (P 0 0) (P 0 1) (P 0 2) (P 1 0) (P 1 1) (P 1 2) (P 2 0) (P 2 1) (P 2 2)
theorem lsw4_01 {P : Nat → Nat → Int} : lm (swA P 0 1) 4 = -lm P 4 := by
  simp only [lm, bm, show swA P 0 1 0 = P 1 from rfl, show swA P 0 1 1 = P 0 from rfl, show swA P 0 1 2 = P 2 from rfl, show swA P 0 1 3 = P 3 from rfl]
  exact sw4_01 (P 0 0) (P 0 1) (P 0 2) (P 0 3) (P 1 0) (P 1 1) (P 1 2) (P 1 3) (P 2 0) (P 2 1) (P 2 2) (P 2 3) (P 3 0) (P 3 1) (P 3 2) (P 3 3)
theorem lsw4_02 {P : Nat → Nat → Int} : lm (swA P 0 2) 4 = -lm P 4 := by
  simp only [lm, bm, show swA P 0 2 0 = P 2 from rfl, show swA P 0 2 1 = P 1 from rfl, show swA P 0 2 2 = P 0 from rfl, show swA P 0 2 3 = P 3 from rfl]
  exact sw4_02 (P 0 0) (P 0 1) (P 0 2) (P 0 3) (P 1 0) (P 1 1) (P 1 2) (P 1 3) (P 2 0) (P 2 1) (P 2 2) (P 2 3) (P 3 0) (P 3 1) (P 3 2) (P 3 3)
theorem lsw4_03 {P : Nat → Nat → Int} : lm (swA P 0 3) 4 = -lm P 4 := by
  simp only [lm, bm, show swA P 0 3 0 = P 3 from rfl, show swA P 0 3 1 = P 1 from rfl, show swA P 0 3 2 = P 2 from rfl, show swA P 0 3 3 = P 0 from rfl]
  exact sw4_03 (P 0 0) (P 0 1) (P 0 2) (P 0 3) (P 1 0) (P 1 1) (P 1 2) (P 1 3) (P 2 0) (P 2 1) (P 2 2) (P 2 3) (P 3 0) (P 3 1) (P 3 2) (P 3 3)
theorem lsw4_12 {P : Nat → Nat → Int} : lm (swA P 1 2) 4 = -lm P 4 := by
  simp only [lm, bm, show swA P 1 2 0 = P 0 from rfl, show swA P 1 2 1 = P 2 from rfl, show swA P 1 2 2 = P 1 from rfl, show swA P 1 2 3 = P 3 from rfl]
  exact sw4_12 (P 0 0) (P 0 1) (P 0 2) (P 0 3) (P 1 0) (P 1 1) (P 1 2) (P 1 3) (P 2 0) (P 2 1) (P 2 2) (P 2 3) (P 3 0) (P 3 1) (P 3 2) (P 3 3)
theorem lsw4_13 {P : Nat → Nat → Int} : lm (swA P 1 3) 4 = -lm P 4 := by
  simp only [lm, bm, show swA P 1 3 0 = P 0 from rfl, show swA P 1 3 1 = P 3 from rfl, show swA P 1 3 2 = P 2 from rfl, show swA P 1 3 3 = P 1 from rfl]
  exact sw4_13 (P 0 0) (P 0 1) (P 0 2) (P 0 3) (P 1 0) (P 1 1) (P 1 2) (P 1 3) (P 2 0) (P 2 1) (P 2 2) (P 2 3) (P 3 0) (P 3 1) (P 3 2) (P 3 3)
theorem lsw4_23 {P : Nat → Nat → Int} : lm (swA P 2 3) 4 = -lm P 4 := by
  simp only [lm, bm, show swA P 2 3 0 = P 0 from rfl, show swA P 2 3 1 = P 1 from rfl, show swA P 2 3 2 = P 3 from rfl, show swA P 2 3 3 = P 2 from rfl]
  exact sw4_23 (P 0 0) (P 0 1) (P 0 2) (P 0 3) (P 1 0) (P 1 1) (P 1 2) (P 1 3) (P 2 0) (P 2 1) (P 2 2) (P 2 3) (P 3 0) (P 3 1) (P 3 2) (P 3 3)
theorem lsw5_01 {P : Nat → Nat → Int} : lm (swA P 0 1) 5 = -lm P 5 := by
  simp only [lm, bm, show swA P 0 1 0 = P 1 from rfl, show swA P 0 1 1 = P 0 from rfl, show swA P 0 1 2 = P 2 from rfl, show swA P 0 1 3 = P 3 from rfl, show swA P 0 1 4 = P 4 from rfl]
  exact sw5_01 (P 0 0) (P 0 1) (P 0 2) (P 0 3) (P 0 4) (P 1 0) (P 1 1) (P 1 2) (P 1 3) (P 1 4) (P 2 0) (P 2 1) (P 2 2) (P 2 3) (P 2 4) (P 3 0) (P 3 1) (P 3 2) (P 3 3) (P 3 4) (P 4 0) (P 4 1) (P 4 2) (P 4 3) (P 4 4)
theorem lsw5_02 {P : Nat → Nat → Int} : lm (swA P 0 2) 5 = -lm P 5 := by
  simp only [lm, bm, show swA P 0 2 0 = P 2 from rfl, show swA P 0 2 1 = P 1 from rfl, show swA P 0 2 2 = P 0 from rfl, show swA P 0 2 3 = P 3 from rfl, show swA P 0 2 4 = P 4 from rfl]
  exact sw5_02 (P 0 0) (P 0 1) (P 0 2) (P 0 3) (P 0 4) (P 1 0) (P 1 1) (P 1 2) (P 1 3) (P 1 4) (P 2 0) (P 2 1) (P 2 2) (P 2 3) (P 2 4) (P 3 0) (P 3 1) (P 3 2) (P 3 3) (P 3 4) (P 4 0) (P 4 1) (P 4 2) (P 4 3) (P 4 4)
theorem lsw5_03 {P : Nat → Nat → Int} : lm (swA P 0 3) 5 = -lm P 5 := by
  simp only [lm, bm, show swA P 0 3 0 = P 3 from rfl, show swA P 0 3 1 = P 1 from rfl, show swA P 0 3 2 = P 2 from rfl, show swA P 0 3 3 = P 0 from rfl, show swA P 0 3 4 = P 4 from rfl]
  exact sw5_03 (P 0 0) (P 0 1) (P 0 2) (P 0 3) (P 0 4) (P 1 0) (P 1 1) (P 1 2) (P 1 3) (P 1 4) (P 2 0) (P 2 1) (P 2 2) (P 2 3) (P 2 4) (P 3 0) (P 3 1) (P 3 2) (P 3 3) (P 3 4) (P 4 0) (P 4 1) (P 4 2) (P 4 3) (P 4 4)
theorem lsw5_04 {P : Nat → Nat → Int} : lm (swA P 0 4) 5 = -lm P 5 := by
  simp only [lm, bm, show swA P 0 4 0 = P 4 from rfl, show swA P 0 4 1 = P 1 from rfl, show swA P 0 4 2 = P 2 from rfl, show swA P 0 4 3 = P 3 from rfl, show swA P 0 4 4 = P 0 from rfl]
  exact sw5_04 (P 0 0) (P 0 1) (P 0 2) (P 0 3) (P 0 4) (P 1 0) (P 1 1) (P 1 2) (P 1 3) (P 1 4) (P 2 0) (P 2 1) (P 2 2) (P 2 3) (P 2 4) (P 3 0) (P 3 1) (P 3 2) (P 3 3) (P 3 4) (P 4 0) (P 4 1) (P 4 2) (P 4 3) (P 4 4)
theorem lsw5_12 {P : Nat → Nat → Int} : lm (swA P 1 2) 5 = -lm P 5 := by
  simp only [lm, bm, show swA P 1 2 0 = P 0 from rfl, show swA P 1 2 1 = P 2 from rfl, show swA P 1 2 2 = P 1 from rfl, show swA P 1 2 3 = P 3 from rfl, show swA P 1 2 4 = P 4 from rfl]
  exact sw5_12 (P 0 0) (P 0 1) (P 0 2) (P 0 3) (P 0 4) (P 1 0) (P 1 1) (P 1 2) (P 1 3) (P 1 4) (P 2 0) (P 2 1) (P 2 2) (P 2 3) (P 2 4) (P 3 0) (P 3 1) (P 3 2) (P 3 3) (P 3 4) (P 4 0) (P 4 1) (P 4 2) (P 4 3) (P 4 4)
theorem lsw5_13 {P : Nat → Nat → Int} : lm (swA P 1 3) 5 = -lm P 5 := by
  simp only [lm, bm, show swA P 1 3 0 = P 0 from rfl, show swA P 1 3 1 = P 3 from rfl, show swA P 1 3 2 = P 2 from rfl, show swA P 1 3 3 = P 1 from rfl, show swA P 1 3 4 = P 4 from rfl]
  exact sw5_13 (P 0 0) (P 0 1) (P 0 2) (P 0 3) (P 0 4) (P 1 0) (P 1 1) (P 1 2) (P 1 3) (P 1 4) (P 2 0) (P 2 1) (P 2 2) (P 2 3) (P 2 4) (P 3 0) (P 3 1) (P 3 2) (P 3 3) (P 3 4) (P 4 0) (P 4 1) (P 4 2) (P 4 3) (P 4 4)
theorem lsw5_14 {P : Nat → Nat → Int} : lm (swA P 1 4) 5 = -lm P 5 := by
  simp only [lm, bm, show swA P 1 4 0 = P 0 from rfl, show swA P 1 4 1 = P 4 from rfl, show swA P 1 4 2 = P 2 from rfl, show swA P 1 4 3 = P 3 from rfl, show swA P 1 4 4 = P 1 from rfl]
  exact sw5_14 (P 0 0) (P 0 1) (P 0 2) (P 0 3) (P 0 4) (P 1 0) (P 1 1) (P 1 2) (P 1 3) (P 1 4) (P 2 0) (P 2 1) (P 2 2) (P 2 3) (P 2 4) (P 3 0) (P 3 1) (P 3 2) (P 3 3) (P 3 4) (P 4 0) (P 4 1) (P 4 2) (P 4 3) (P 4 4)
theorem lsw5_23 {P : Nat → Nat → Int} : lm (swA P 2 3) 5 = -lm P 5 := by
  simp only [lm, bm, show swA P 2 3 0 = P 0 from rfl, show swA P 2 3 1 = P 1 from rfl, show swA P 2 3 2 = P 3 from rfl, show swA P 2 3 3 = P 2 from rfl, show swA P 2 3 4 = P 4 from rfl]
  exact sw5_23 (P 0 0) (P 0 1) (P 0 2) (P 0 3) (P 0 4) (P 1 0) (P 1 1) (P 1 2) (P 1 3) (P 1 4) (P 2 0) (P 2 1) (P 2 2) (P 2 3) (P 2 4) (P 3 0) (P 3 1) (P 3 2) (P 3 3) (P 3 4) (P 4 0) (P 4 1) (P 4 2) (P 4 3) (P 4 4)
theorem lsw5_24 {P : Nat → Nat → Int} : lm (swA P 2 4) 5 = -lm P 5 := by
  simp only [lm, bm, show swA P 2 4 0 = P 0 from rfl, show swA P 2 4 1 = P 1 from rfl, show swA P 2 4 2 = P 4 from rfl, show swA P 2 4 3 = P 3 from rfl, show swA P 2 4 4 = P 2 from rfl]
  exact sw5_24 (P 0 0) (P 0 1) (P 0 2) (P 0 3) (P 0 4) (P 1 0) (P 1 1) (P 1 2) (P 1 3) (P 1 4) (P 2 0) (P 2 1) (P 2 2) (P 2 3) (P 2 4) (P 3 0) (P 3 1) (P 3 2) (P 3 3) (P 3 4) (P 4 0) (P 4 1) (P 4 2) (P 4 3) (P 4 4)
theorem lsw5_34 {P : Nat → Nat → Int} : lm (swA P 3 4) 5 = -lm P 5 := by
  simp only [lm, bm, show swA P 3 4 0 = P 0 from rfl, show swA P 3 4 1 = P 1 from rfl, show swA P 3 4 2 = P 2 from rfl, show swA P 3 4 3 = P 4 from rfl, show swA P 3 4 4 = P 3 from rfl]
  exact sw5_34 (P 0 0) (P 0 1) (P 0 2) (P 0 3) (P 0 4) (P 1 0) (P 1 1) (P 1 2) (P 1 3) (P 1 4) (P 2 0) (P 2 1) (P 2 2) (P 2 3) (P 2 4) (P 3 0) (P 3 1) (P 3 2) (P 3 3) (P 3 4) (P 4 0) (P 4 1) (P 4 2) (P 4 3) (P 4 4)
theorem lm_sw {P : Nat → Nat → Int} {n k r : Nat} (hn : n ≤ 5) (hr : r < n) (hk : k < r) : lm (swA P k r) n = -lm P n := by
  rcases (show n = 2 ∨ n = 3 ∨ n = 4 ∨ n = 5 by omega) with rfl | rfl | rfl | rfl
  · rcases (show (k = 0 ∧ r = 1) by omega) with ⟨rfl, rfl⟩
    · exact lsw2_01
  · rcases (show (k = 0 ∧ r = 1) ∨ (k = 0 ∧ r = 2) ∨ (k = 1 ∧ r = 2) by omega) with ⟨rfl, rfl⟩ | ⟨rfl, rfl⟩ | ⟨rfl, rfl⟩
    · exact lsw3_01
    · exact lsw3_02
    · exact lsw3_12
  · rcases (show (k = 0 ∧ r = 1) ∨ (k = 0 ∧ r = 2) ∨ (k = 0 ∧ r = 3) ∨ (k = 1 ∧ r = 2) ∨ (k = 1 ∧ r = 3) ∨ (k = 2 ∧ r = 3) by omega) with ⟨rfl, rfl⟩ | ⟨rfl, rfl⟩ | ⟨rfl, rfl⟩ | ⟨rfl, rfl⟩ | ⟨rfl, rfl⟩ | ⟨rfl, rfl⟩
    · exact lsw4_01
    · exact lsw4_02
    · exact lsw4_03
    · exact lsw4_12
    · exact lsw4_13
    · exact lsw4_23
  · rcases (show (k = 0 ∧ r = 1) ∨ (k = 0 ∧ r = 2) ∨ (k = 0 ∧ r = 3) ∨ (k = 0 ∧ r = 4) ∨ (k = 1 ∧ r = 2) ∨ (k = 1 ∧ r = 3) ∨ (k = 1 ∧ r = 4) ∨ (k = 2 ∧ r = 3) ∨ (k = 2 ∧ r = 4) ∨ (k = 3 ∧ r = 4) by omega) with ⟨rfl, rfl⟩ | ⟨rfl, rfl⟩ | ⟨rfl, rfl⟩ | ⟨rfl, rfl⟩ | ⟨rfl, rfl⟩ | ⟨rfl, rfl⟩ | ⟨rfl, rfl⟩ | ⟨rfl, rfl⟩ | ⟨rfl, rfl⟩ | ⟨rfl, rfl⟩
    · exact lsw5_01
    · exact lsw5_02
    · exact lsw5_03
    · exact lsw5_04
    · exact lsw5_12
    · exact lsw5_13
    · exact lsw5_14
    · exact lsw5_23
    · exact lsw5_24
    · exact lsw5_34
/-- one step of the elimination, a row swapped in -/
theorem elA_bm {P A : Nat → Nat → Int} {n k r : Nat} (hn : n ≤ 5) (hk : k ≤ r) (hr : r < n) (hp : lm P k ≠ 0) (hA : ∀ i j, k ≤ i → i < n → k ≤ j → j < n → A i j = bm P k i j) :
    (∀ i j, k ≤ i → i < n → k ≤ j → j < n → swA A k r i j = bm (swA P k r) k i j) ∧ (∀ i j, k < i → i < n → k < j → j < n → swA A k r i j * swA A k r k k - swA A k r i k * swA A k r k j = bm (swA P k r) (k + 1) i j * lm P k) ∧ (∀ i j, k < i → i < n → k < j → j < n → elA (swA A k r) k (lm P k) i j = bm (swA P k r) (k + 1) i j) := by
  have h1 : ∀ i j, k ≤ i → i < n → k ≤ j → j < n → swA A k r i j = bm (swA P k r) k i j := by
    intro i j hi hi2 hj hj2
    rw [bm_sw (by omega) hk]
    unfold swA
    split
    · exact hA _ _ hk hr hj hj2
    · split
      · exact hA _ _ (by omega) (by omega) hj hj2
      · exact hA _ _ hi hi2 hj hj2
  have h2 : ∀ i j, k < i → i < n → k < j → j < n → swA A k r i j * swA A k r k k - swA A k r i k * swA A k r k j = bm (swA P k r) (k + 1) i j * lm P k := by
    intro i j hi hi2 hj hj2
    rw [h1 _ _ (by omega) hi2 (by omega) hj2, h1 _ _ (by omega) (by omega) (by omega) (by omega), h1 _ _ (by omega) hi2 (by omega) (by omega), h1 _ _ (by omega) (by omega) (by omega) hj2, sylm _ (by omega), lm_lo (by omega) hk]
  refine ⟨h1, h2, ?_⟩
  intro i j hi hi2 hj hj2
  rw [elA, if_pos ⟨hi, hj⟩, h2 i j hi hi2 hj hj2]
  exact Int.mul_tdiv_cancel _ hp
theorem dtS_lm {n : Nat} (hn : n ≤ 5) : ∀ f k (A P : Nat → Nat → Int) s, k + f = n → lm P k ≠ 0 → (∀ i j, k ≤ i → i < n → k ≤ j → j < n → A i j = bm P k i j) → dtS n f k A s (lm P k) = s * lm P n
  | 0, k, A, P, s, hf, hp, hA => by
    rw [show n = k by omega]
    rfl
  | f + 1, k, A, P, s, hf, hp, hA => by
    have hpv1 : k ≤ pvR A n k := Nat.le_add_right _ _
    rw [dtS]
    by_cases hr : pvR A n k < n
    · have hne : A (pvR A n k) k ≠ 0 := by
        have e := (fstN_spec (fun t => decide (A (k + t) k ≠ 0)) (n - k)).2.2 (by have := hr; unfold pvR at this; omega)
        exact of_decide_eq_true e
      rw [if_pos hr]
      generalize hg : pvR A n k = r at *
      obtain ⟨e1, e2, e3⟩ := elA_bm hn hpv1 hr hp hA
      have ekk : swA A k r k k = lm (swA P k r) (k + 1) := e1 k k (by omega) (by omega) (by omega) (by omega)
      have ekn : swA A k r k k ≠ 0 := by
        rw [swA, if_pos rfl]
        exact hne
      rw [ekk, dtS_lm hn f (k + 1) _ (swA P k r) _ (by omega) (by rw [← ekk]; exact ekn) (fun i j hi hi2 hj hj2 => e3 i j (by omega) hi2 (by omega) hj2)]
      by_cases c : r = k
      · rw [if_pos c, c, swA_s]
      · rw [if_neg c, lm_sw hn hr (by omega)]
        grind
    · rw [if_neg hr, zn_all hn (by omega) hp (fun i hi hi2 => ?_)]
      · omega
      · rw [← hA i k hi hi2 (by omega) (by omega)]
        have e := (fstN_spec (fun t => decide (A (k + t) k ≠ 0)) (n - k)).2.1 (i - k) (by unfold pvR at hr; omega)
        rw [show k + (i - k) = i by omega] at e
        exact Decidable.of_not_not (of_decide_eq_false e)
theorem okDt_lm {n : Nat} (hn : n ≤ 5) : ∀ f k (A P : Nat → Nat → Int), k + f = n → lm P k ≠ 0 → (∀ i j, k ≤ i → i < n → k ≤ j → j < n → A i j = bm P k i j) →
    ∀ (C : (Nat → Nat → Int) → Prop), (∀ Q k r, k ≤ r → r < n → C Q → C (swA Q k r)) → (∀ Q k i, C Q → k ≤ i → i < n → inL (bm Q k i k)) → (∀ Q k i j, C Q → k < i → i < n → k < j → j < n → inL (bm Q (k + 1) i j * lm Q k)) → C P → okDt n f k A (lm P k)
  | 0, _, _, _, _, _, _, _, _, _, _, _ => trivial
  | f + 1, k, A, P, hf, hp, hA, C, c1, c2, c3, cP => by
    have hpv1 : k ≤ pvR A n k := Nat.le_add_right _ _
    refine ⟨fun r h1 h2 => by rw [hA r k h1 h2 (by omega) (by omega)]; exact c2 P k r cP h1 h2, fun hr => ?_⟩
    have hne : A (pvR A n k) k ≠ 0 := by
      have e := (fstN_spec (fun t => decide (A (k + t) k ≠ 0)) (n - k)).2.2 (by have := hr; unfold pvR at this; omega)
      exact of_decide_eq_true e
    generalize hg : pvR A n k = r at *
    obtain ⟨e1, e2, e3⟩ := elA_bm hn hpv1 hr hp hA
    have ekk : swA A k r k k = lm (swA P k r) (k + 1) := e1 k k (by omega) (by omega) (by omega) (by omega)
    have ekn : swA A k r k k ≠ 0 := by
      rw [swA, if_pos rfl]
      exact hne
    have cQ := c1 P k r hpv1 hr cP
    refine ⟨fun i j hi hi2 hj hj2 => ?_, ?_⟩
    · rw [e2 i j hi hi2 hj hj2, ← lm_lo (P := P) (r := r) (by omega) hpv1]
      exact c3 _ k i j cQ hi hi2 hj hj2
    · rw [ekk]
      exact okDt_lm hn f (k + 1) _ (swA P k r) (by omega) (by rw [← ekk]; exact ekn) (fun i j hi hi2 hj hj2 => e3 i j (by omega) hi2 (by omega) hj2) C c1 c2 c3 cQ

