/-! ===== a mean: both sides alike ===== -/
theorem dt_cong : ∀ n (A B : Nat → Nat → Int), (∀ i j, i < n → j < n → A i j = B i j) → dt n A = dt n B
  | 0, _, _, _ => rfl
  | n + 1, A, B, h => by
    have e : ∀ c, c ≤ n + 1 → alS (fun c => A 0 c * dt n (mnr A c)) c = alS (fun c => B 0 c * dt n (mnr B c)) c := by
      intro c
      induction c with
      | zero => exact fun _ => rfl
      | succ c ihc =>
        intro hc
        have e1 := h 0 c (by omega) (by omega)
        have e2 := dt_cong n (mnr A c) (mnr B c) (fun i j hi hj => h (i + 1) (if j < c then j else j + 1) (by omega) (by split <;> omega))
        show alS (fun c => A 0 c * dt n (mnr A c)) c + (if c % 2 = 0 then A 0 c * dt n (mnr A c) else -(A 0 c * dt n (mnr A c))) = alS (fun c => B 0 c * dt n (mnr B c)) c + (if c % 2 = 0 then B 0 c * dt n (mnr B c) else -(B 0 c * dt n (mnr B c)))
        rw [ihc (by omega), e1, e2]
    exact e (n + 1) (Nat.le_refl _)
theorem gd_l {l : List Nat} {a i : Nat} (h : i < l.length) : (l ++ [a]).getD i 0 = l.getD i 0 := by simp [List.getD, List.getElem?_append_left h]
theorem gd_r {l : List Nat} {a i : Nat} (h : i = l.length) : (l ++ [a]).getD i 0 = a := by simp [List.getD, h]
section
variable {S x n : Nat} {q : Nat → Bool}
theorem ord_lo (h : ∀ u, u < n → S.testBit u = q u) : ∀ c, c ≤ x → c ≤ n → ordL S x c = ascL q c
  | 0, _, _ => rfl
  | c + 1, h1, h2 => by
    rw [ordL, ascL, ord_lo h c (by omega) (by omega), h c (by omega)]
    by_cases e : q c = true
    · rw [if_pos ⟨by omega, e⟩, if_pos e]
    · rw [if_neg (fun z => e z.2), if_neg e]
theorem ord_hi (h : ∀ u, u < n → S.testBit u = q u) (hx : x < n) (hq : q x = true) : ∀ c, x < c → c ≤ n → (ordL S x c).length + 1 = (ascL q c).length ∧ (ascL q x).length ≤ (ordL S x c).length ∧ ∀ i, i < (ordL S x c).length → (ordL S x c).getD i 0 = (ascL q c).getD (if i < (ascL q x).length then i else i + 1) 0
  | 0, h1, _ => by omega
  | c + 1, h1, h2 => by
    by_cases e : c = x
    · subst e
      have e1 : ordL S c (c + 1) = ascL q c := by rw [ordL, if_neg (fun z => z.1 rfl), ord_lo h c (Nat.le_refl _) (by omega)]
      have e2 : ascL q (c + 1) = ascL q c ++ [c] := by rw [ascL, if_pos hq]
      rw [e1, e2]
      refine ⟨by simp, Nat.le_refl _, fun i hi => ?_⟩
      rw [if_pos hi, gd_l hi]
    · obtain ⟨i1, i2, i3⟩ := ord_hi h hx hq c (by omega) (by omega)
      rw [ordL, ascL, h c (by omega)]
      by_cases eq : q c = true
      · rw [if_pos ⟨e, eq⟩, if_pos eq]
        refine ⟨by simp [i1], by rw [List.length_append]; omega, fun i hi => ?_⟩
        rw [List.length_append, List.length_singleton] at hi
        by_cases ei : i = (ordL S x c).length
        · rw [gd_r ei, if_neg (by omega), gd_r (by omega)]
        · rw [gd_l (by omega), i3 i (by omega), gd_l (by split <;> omega)]
      · rw [if_neg (fun z => eq z.2), if_neg eq]
        exact ⟨i1, i2, i3⟩
theorem unk_len (h : ∀ u, u < n → S.testBit u = q u) (hx : x < n) (hq : q x = true) : (unkL S x n).length = (ascL q n).length := by
  have e := (ord_hi h hx hq n hx (Nat.le_refl _)).1
  unfold unkL
  rw [List.length_append, List.length_singleton]
  exact e
theorem unk_get (h : ∀ u, u < n → S.testBit u = q u) (hx : x < n) (hq : q x = true) {i : Nat} (hi : i < (ascL q n).length) : (unkL S x n).getD i 0 = (ascL q n).getD (cyP (ascL q n).length (ascL q x).length i) 0 := by
  obtain ⟨e1, e2, e3⟩ := ord_hi h hx hq n hx (Nat.le_refl _)
  unfold unkL cyP
  by_cases ei : i = (ordL S x n).length
  · rw [gd_r ei, if_neg (by omega), if_neg (by omega), asc_get q hq n hx]
  · rw [gd_l (by omega), e3 i (by omega)]
    split
    · rfl
    · rw [if_pos (by omega)]
theorem asc_enu : enu (fun i => (ascL q n).getD i 0) (ascL q n).length n := by
  refine ⟨fun i hi => ?_, fun i j hi hj e => ?_⟩
  · obtain ⟨y, h1, h2, h3⟩ := asc_sur q n i hi
    show (ascL q n).getD i 0 < n
    rw [← h3, asc_get q h2 n h1]
    exact h1
  · obtain ⟨y, h1, h2, h3⟩ := asc_sur q n i hi
    obtain ⟨z, g1, g2, g3⟩ := asc_sur q n j hj
    have e' : (ascL q n).getD i 0 = (ascL q n).getD j 0 := e
    rw [← h3, ← g3, asc_get q h2 n h1, asc_get q g2 n g1] at e'
    rw [← h3, ← g3, e']
theorem cyP_lt {m p i : Nat} (hp : p < m) (hi : i < m) : cyP m p i < m := by
  unfold cyP
  (repeat' split) <;> omega
theorem cyP_inj {m p i j : Nat} (hp : p < m) (hi : i < m) (hj : j < m) (h : cyP m p i = cyP m p j) : i = j := by
  revert h
  unfold cyP
  (repeat' split) <;> omega
theorem cyP_p {m p i : Nat} (hp : p < m) (hi : i < m) : cyP m p i = p ↔ i + 1 = m := by
  unfold cyP
  (repeat' split) <;> omega
theorem unk_enu (h : ∀ u, u < n → S.testBit u = q u) (hx : x < n) (hq : q x = true) : enu (fun i => (unkL S x n).getD i 0) (ascL q n).length n := by
  have hp := asc_lt q hx hq
  refine ⟨fun i hi => unkL_lt hx i, fun i j hi hj e => ?_⟩
  have e' : (unkL S x n).getD i 0 = (unkL S x n).getD j 0 := e
  rw [unk_get h hx hq hi, unk_get h hx hq hj] at e'
  exact cyP_inj hp hi hj (asc_enu.2 _ _ (cyP_lt hp hi) (cyP_lt hp hj) e')
theorem asc_iS {t : Nat} (ht : q t = false) : iS (fun i => (ascL q n).getD i 0) (ascL q n).length t = false := by
  cases c : iS (fun i => (ascL q n).getD i 0) (ascL q n).length t with
  | false => rfl
  | true =>
    obtain ⟨j, h1, h2⟩ := iS_iff.mp c
    obtain ⟨y, g1, g2, g3⟩ := asc_sur q n j h1
    have h2' : (ascL q n).getD j 0 = t := h2
    rw [← g3, asc_get q g2 n g1] at h2'
    rw [h2', ht] at g2
    cases g2
theorem asc_q {i : Nat} (hi : i < (ascL q n).length) : q ((ascL q n).getD i 0) = true := by
  obtain ⟨y, g1, g2, g3⟩ := asc_sur q n i hi
  rw [← g3, asc_get q g2 n g1]
  exact g2
theorem asc_miss {t : Nat} (ht : t < n) (hq : q t = false) : (ascL q n).length + 1 ≤ n := by
  have key : ∀ c, t < c → (ascL q c).length + 1 ≤ c := by
    intro c
    induction c with
    | zero => omega
    | succ c ih =>
      intro hc
      by_cases e : t = c
      · have := asc_le q c
        rw [ascL, ← e, hq, if_neg (by intro z; cases z), e]
        omega
      · have := ih (by omega)
        rw [ascL]
        split
        · rw [List.length_append, List.length_singleton]
          omega
        · omega
  exact key n ht
end
theorem deg_le {W : Nat → Nat} {n x : Nat} (hn : n ≤ 6) (hx : x < n) (hz : ∀ x, x < n → W (x * 6 + x) = 0) (hW : ∀ k, k < 36 → W k ≤ 9) : degN W x n ≤ 45 := by
  have key : ∀ c, c ≤ n → sN (fun u => W (x * 6 + u)) c + (if x < c then 9 else 0) ≤ 9 * c := by
    intro c
    induction c with
    | zero =>
      intro _
      rw [if_neg (by omega)]
      exact Nat.le_refl _
    | succ c ih =>
      intro hc
      have e := ih (by omega)
      have e1 := hW (x * 6 + c) (by omega)
      show sN (fun u => W (x * 6 + u)) c + W (x * 6 + c) + _ ≤ _
      by_cases ex : x = c
      · rw [ex] at e ⊢
        rw [hz c (by omega), if_pos (by omega)]
        rw [if_neg (by omega)] at e
        omega
      · by_cases c1 : x < c
        · rw [if_pos c1] at e
          rw [if_pos (by omega)]
          omega
        · rw [if_neg c1] at e
          rw [if_neg (by omega)]
          omega
  have e := key n (Nat.le_refl _)
  rw [if_pos hx] at e
  unfold degN
  omega
/-- symmetric, nothing on the diagonal, at most 9 -/
def gdW (W : Nat → Nat) (n : Nat) : Prop := n ≤ 6 ∧ (∀ x, x < n → W (x * 6 + x) = 0) ∧ (∀ x y, x < n → y < n → W (x * 6 + y) = W (y * 6 + x)) ∧ ∀ k, k < 36 → W k ≤ 9
section
variable {W : Nat → Nat} {n m : Nat}
theorem lap_rowC {s : Nat → Nat} {x : Nat → Int} {N p i : Nat} (hW : gdW W n) (hs : enu s m n) (hi : i < m) (hp : (x p).natAbs ≤ 4455) (h : ∀ j, j < N → j ≠ p → j < m ∧ x j = lapM W n s i j) : rowC x N p := by
  refine ⟨hp, i, fun j hj hjp => ?_⟩
  obtain ⟨h1, h2⟩ := h j hj hjp
  rw [h2, lapM]
  by_cases c : i = j
  · rw [if_pos c, if_pos c.symm]
    have := deg_le hW.1 (hs.1 i hi) hW.2.1 hW.2.2.2
    omega
  · rw [if_neg c, if_neg (fun z => c z.symm)]
    have h3 := hs.1 i hi
    have h4 := hs.1 j h1
    have h5 := hW.1
    have := hW.2.2.2 (s i * 6 + s j) (by omega)
    omega
theorem lpl_lap {l : List Nat} {i j : Nat} (hl : enu (fun i => l.getD i 0) m n) (hi : i < m) (hj : j < m) : lpl W n (l.getD i 0) (l.getD j 0) = lapM W n (fun i => l.getD i 0) i j := by
  unfold lpl lapM
  by_cases c : i = j
  · rw [if_pos c, c, if_pos rfl]
  · rw [if_neg c, if_neg (fun z => c (hl.2 i j hi hj z.symm))]
theorem rMt_rowC {l : List Nat} {g : Nat → Int} {z : Int} {p i : Nat} (hW : gdW W n) (hl : enu (fun i => l.getD i 0) m n) (hg : ∀ k, k < n → (g k).natAbs ≤ 4455) (hz : z = p ∨ z = -1) (hp : p < m) (hi : i < m) : rowC (rMt W n l g z i) m p := by
  refine lap_rowC (i := i) hW hl hi ?_ (fun j hj hjp => ⟨hj, ?_⟩)
  · unfold rMt
    split
    · exact hg _ (hl.1 i hi)
    · rw [lpl_lap hl hi hp, lapM]
      have h3 : l.getD i 0 < n := hl.1 i hi
      have h4 : l.getD p 0 < n := hl.1 p hp
      have h7 : degN W (l.getD i 0) n ≤ 45 := deg_le hW.1 h3 hW.2.1 hW.2.2.2
      have h5 := hW.1
      have h6 := hW.2.2.2 (l.getD i 0 * 6 + l.getD p 0) (by omega)
      split <;> omega
  · unfold rMt
    rw [if_neg (by omega), lpl_lap hl hi hj]
theorem aug_rowC {l : List Nat} {g : Nat → Int} {i : Nat} (hW : gdW W n) (hl : enu (fun i => l.getD i 0) l.length n) (hg : ∀ k, k < n → (g k).natAbs ≤ 4455) (hi : i < l.length) : rowC (aug W n g l i) (l.length + 1) l.length := by
  refine lap_rowC (i := i) hW hl hi ?_ (fun j hj hjp => ⟨by omega, ?_⟩)
  · unfold aug
    rw [if_pos rfl]
    exact hg _ (hl.1 i hi)
  · unfold aug lapM
    rw [if_neg hjp]
end

