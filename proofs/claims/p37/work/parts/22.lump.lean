/-! ===== Partition: the graph of the blocks ===== -/
theorem lF_fil (f : Nat → Int) (n : Nat) (x : Int) : filF (lF f) n (lI x) = lF (filF f n x) := by
  funext k
  show (if k < n then lI x else lI (f k)) = lI (if k < n then x else f k)
  split <;> rfl
theorem w6 {i j i2 j2 : Nat} (h1 : j < 6) (h2 : j2 < 6) : i * 6 + j = i2 * 6 + j2 ↔ i = i2 ∧ j = j2 := by omega
def lpS (W B : Nat → Nat) (n k i j : Nat) : Nat := sN (fun x => if B x = i then wto W B n x j else 0) k
def lgS (W B : Nat → Nat) (n k i : Nat) : Nat := sN (fun x => if B x = i then degN W x n else 0) k
def lpW (W B : Nat → Nat) (n nb k i j : Nat) : Nat := if i < j then (if j < nb then lpS W B n k i j else 0) else if j < i then (if i < nb then lpS W B n k j i else 0) else 0
theorem lpW_sym (W B : Nat → Nat) (n nb k i j : Nat) : lpW W B n nb k i j = lpW W B n nb k j i := by
  unfold lpW
  rcases Nat.lt_trichotomy i j with h | h | h
  · rw [if_pos h, if_neg (show ¬ j < i by omega), if_pos h]
  · rw [h]
  · rw [if_neg (show ¬ i < j by omega), if_pos h, if_pos h]
theorem lpW_same {W B : Nat → Nat} {n nb k i j : Nat} (h : i = j ∨ min i j ≠ B k ∨ nb ≤ max i j) : lpW W B n nb (k + 1) i j = lpW W B n nb k i j := by
  unfold lpW
  split
  · next h1 =>
    split
    · rw [lpS, sN, if_neg (by omega)]
      rfl
    · rfl
  · split
    · next h1 =>
      split
      · rw [lpS, sN, if_neg (by omega)]
        rfl
      · rfl
    · rfl
theorem lpW_up {W B : Nat → Nat} {n nb k j : Nat} (h1 : B k < j) (h2 : j < nb) : lpW W B n nb (k + 1) (B k) j = lpW W B n nb k (B k) j + wto W B n k j := by
  unfold lpW
  rw [if_pos h1, if_pos h2, if_pos h1, if_pos h2, lpS, sN, if_pos rfl]
  rfl
theorem c_ptClear {v : Ev} {h : Hp} {top q n : Nat} {L : GT} {gn : Nat → Int} {fn : Nat → Nat} (hn : n ≤ 6) : Cal v mX3_clear 2 0 0 [.ref (q + 1), .int (nI n)] (pH v h q L gn fn) top (pV (pH v h q (L.cl0 v n 6) gn fn) top) noX := by
  have k := c_clear (v := v) (h := pH v h q L gn fn) (top := top) (g := q + 1) (G := L) hn
  rw [pH_pL, pH_pL] at k
  exact k
theorem c_ptPutW {v : Ev} {h : Hp} {top q a b w : Nat} {L : GT} {gn : Nat → Int} {fn : Nat → Nat} (ha : a < 6) (hb : b < 6) : Cal v mX3_putWeight 1 0 0 [.ref (q + 1), .int (nI a), .int (nI b), .int (nI w)] (pH v h q L gn fn) top (pV (pH v h q (L.sW (pWt L.W a b w)) gn fn) top) noX := by
  have k := c_putW2 (v := v) (h := pH v h q L gn fn) (top := top) (g := q + 1) (G := L) (w := w) ha hb
  rw [pH_pL, pH_pL] at k
  exact k
/-- the transition between two blocks, as it is put -/
def bcN (L : GT) (gn : Nat → Int) (x y : Nat) : Int := if gn x ≤ 0 then (if x = y then 1 else 0) else if x = y then gn x - (degN L.W x L.n : Nat) else (L.W (x * 6 + y) : Nat)
def bcD (gn : Nat → Int) (x : Nat) : Int := if gn x ≤ 0 then 1 else gn x
