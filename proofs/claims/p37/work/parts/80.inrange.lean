/-! ===== all that the eliminations reckon lies among the longs ===== -/
theorem rowB_bdr {x : Nat → Int} {N p k j : Nat} (h : rowC x N p) (hk : k ≤ j) (hj : j < N) (hp : k ≤ p) (hpj : p ≠ j) : rowB (fun c => x (if c < k then c else j)) (k + 1) := by
  obtain ⟨h0, b, hb⟩ := h
  refine ⟨if b < k then b else if b = j then k else k + 1, fun c hc => ?_⟩
  have e := hb (if c < k then c else j) (by split <;> omega) (by split <;> omega)
  refine Nat.le_trans e ?_
  (repeat' split) <;> omega
theorem rowC_bdr {x : Nat → Int} {N p k j : Nat} (h : rowC x N p) (hk : k ≤ j) (hj : j < N) (hp : p < k ∨ p = j) : rowC (fun c => x (if c < k then c else j)) (k + 1) (if p < k then p else k) := by
  obtain ⟨h0, b, hb⟩ := h
  refine ⟨?_, if b < k then b else if b = j then k else k + 1, fun c hc hcp => ?_⟩
  · show (x (if (if p < k then p else k) < k then (if p < k then p else k) else j)).natAbs ≤ 4455
    rw [show (if (if p < k then p else k) < k then (if p < k then p else k) else j) = p by (repeat' split) <;> omega]
    exact h0
  · have e := hb (if c < k then c else j) (by split <;> omega) (by revert hcp; (repeat' split) <;> omega)
    refine Nat.le_trans e ?_
    (repeat' split) <;> omega
theorem Fb_le : ∀ k, Fb (k + 1) ≤ Gb (k + 1)
  | k => Nat.mul_le_mul_right _ (by omega)
section
variable {Q : Nat → Nat → Int} {n N p : Nat}
theorem bm_F (h : ∀ a, a < n → rowC (Q a) N p) {k i j : Nat} (hk4 : k ≤ 4) (hkn : k ≤ n) (hi : i < n) (hk : k ≤ j) (hj : j < N) (hp : k ≤ p) (hpj : p ≠ j) : (bm Q k i j).natAbs ≤ Fb (k + 1) := by
  rw [bm_dt _ hk4]
  exact dt_F _ _ (fun a ha => rowB_bdr (h (if a < k then a else i) (by split <;> omega)) hk hj hp hpj)
theorem bm_G (h : ∀ a, a < n → rowC (Q a) N p) {k i j : Nat} (hk4 : k ≤ 4) (hkn : k ≤ n) (hi : i < n) (hk : k ≤ j) (hj : j < N) : (bm Q k i j).natAbs ≤ Gb (k + 1) := by
  by_cases c : p < k ∨ p = j
  · rw [bm_dt _ hk4]
    exact dt_G _ _ (if p < k then p else k) (by split <;> omega) (fun a ha => rowC_bdr (h (if a < k then a else i) (by split <;> omega)) hk hj c)
  · exact Nat.le_trans (bm_F h hk4 hkn hi hk hj (by omega) (by omega)) (Fb_le k)
def Hb (k : Nat) : Nat := if k = 0 then 1 else Gb k
theorem lm_H (h : ∀ a, a < n → rowC (Q a) N p) (hn : n ≤ N) {k : Nat} (hk : k ≤ n) (hk5 : k ≤ 5) : (lm Q k).natAbs ≤ Hb k := by
  cases k with
  | zero => exact Nat.le_refl _
  | succ k => exact bm_G h (by omega) (by omega) (by omega) (Nat.le_refl _) (by omega)
theorem GH_in : ∀ k, k ≤ 3 → Gb (k + 2) * Hb k ≤ 9223372036854775807 := by decide
theorem G_in : ∀ k, k ≤ 4 → Gb (k + 1) ≤ 9223372036854775807 := by decide
theorem inL_abs {z : Int} {b : Nat} (h : z.natAbs ≤ b) (hb : b ≤ 9223372036854775807) : inL z := by
  unfold inL
  omega
theorem bm_in (h : ∀ a, a < n → rowC (Q a) N p) {k i j : Nat} (hk4 : k ≤ 4) (hkn : k ≤ n) (hi : i < n) (hk : k ≤ j) (hj : j < N) : inL (bm Q k i j) := inL_abs (bm_G h hk4 hkn hi hk hj) (G_in k hk4)
theorem bl_in (h : ∀ a, a < n → rowC (Q a) N p) (hn : n ≤ N) {k i j : Nat} (hk3 : k ≤ 3) (hi : i < n) (hki : k < i) (hk : k < j) (hj : j < N) : inL (bm Q (k + 1) i j * lm Q k) := by
  refine inL_abs (b := Gb (k + 2) * Hb k) ?_ (GH_in k hk3)
  rw [Int.natAbs_mul]
  exact Nat.mul_le_mul (bm_G h (by omega) (by omega) hi hk hj) (lm_H h hn (by omega) (by omega))
theorem okDt_of (hn : n ≤ 5) (h : ∀ a, a < n → rowC (Q a) n p) : okDt n n 0 Q 1 := by
  refine okDt_lm hn n 0 Q Q (by omega) (show (1 : Int) ≠ 0 by decide) (fun _ _ _ _ _ _ => rfl) (fun Q => ∀ a, a < n → rowC (Q a) n p) ?_ ?_ ?_ h
  · intro Q k r hk hr hq a ha
    unfold swA
    split
    · exact hq _ hr
    · split
      · exact hq _ (by omega)
      · exact hq a ha
  · exact fun Q k i hq hk hi => bm_in hq (by omega) (by omega) hi (Nat.le_refl _) (by omega)
  · exact fun Q k i j hq hk hi hj hj2 => bl_in hq (Nat.le_refl _) (by omega) hi hk hj hj2
theorem dtS_of (hn : n ≤ 5) (A : Nat → Nat → Int) : dtS n n 0 A 1 1 = lm A n := by
  have e := dtS_lm hn n 0 A A 1 (by omega) (show (1 : Int) ≠ 0 by decide) (fun _ _ _ _ _ _ => rfl)
  rw [Int.one_mul] at e
  exact e
end
section
variable {A : Nat → Nat → Int} {m : Nat}
theorem elm_piv (hm : m ≤ 5) (h : ∀ t, t < m → elm A t t t ≠ 0) : ∀ t, t ≤ m → ∀ u, u < t → lm A (u + 1) ≠ 0
  | 0, _, u, hu => absurd hu (Nat.not_lt_zero _)
  | t + 1, ht, u, hu => by
    have ih := elm_piv hm h t (by omega)
    by_cases c : u = t
    · subst c
      have e := (elm_bm u (by omega) ih).1 u u (Nat.le_refl _) (Nat.le_refl _)
      show bm A u u u ≠ 0
      rw [← e]
      exact h u ht
    · exact ih u (by omega)
theorem elm_val (hm : m ≤ 5) {k : Nat} (hk : k < m) (h : ∀ t, t < k → elm A t t t ≠ 0) {i j : Nat} (hi : k ≤ i) (hj : k ≤ j) : elm A k i j = bm A k i j :=
  (elm_bm k (by omega) (fun t ht => elm_piv (by omega) h k (Nat.le_refl _) t ht)).1 i j hi hj
/-- the last pivot and the last numerator -/
theorem elm_den (hm : m ≤ 5) (h1 : 1 ≤ m) (h : ∀ t, t < m → elm A t t t ≠ 0) : elm A m (m - 1) (m - 1) = lm A m := by
  obtain ⟨m, rfl⟩ : ∃ k, m = k + 1 := ⟨m - 1, by omega⟩
  rw [show m + 1 - 1 = m by omega, elm_stay m (m + 1) (by omega) (Nat.le_refl _)]
  exact elm_val hm (by omega) (fun t ht => h t (by omega)) (Nat.le_refl _) (Nat.le_refl _)
theorem elm_num (hm : m ≤ 5) (h1 : 1 ≤ m) (h : ∀ t, t < m → elm A t t t ≠ 0) : elm A m (m - 1) m = bm A (m - 1) (m - 1) m := by
  obtain ⟨m, rfl⟩ : ∃ k, m = k + 1 := ⟨m - 1, by omega⟩
  rw [show m + 1 - 1 = m by omega, elm_stay m (m + 1) (by omega) (Nat.le_refl _)]
  exact elm_val hm (by omega) (fun t ht => h t (by omega)) (Nat.le_refl _) (by omega)
theorem okA_of (hm : m ≤ 5) (h1 : 1 ≤ m) (h : ∀ a, a < m → rowC (A a) (m + 1) m) (hp : (∀ t, t < m → elm A t t t ≠ 0) → 0 < lm A m) : okA A m := by
  refine ⟨fun k hk hz => ?_, fun k hk hz i j hi hi2 hj hj2 => ?_, fun hz => ?_, fun hz => ?_⟩
  · rw [elm_val hm hk hz (Nat.le_refl _) (Nat.le_refl _)]
    exact bm_in h (by omega) (by omega) hk (Nat.le_refl _) (by omega)
  · have hz' : ∀ t, t < k → elm A t t t ≠ 0 := fun t ht => hz t (by omega)
    rw [elm_val hm hk hz' (by omega) (by omega), elm_val hm hk hz' (Nat.le_refl _) (Nat.le_refl _), elm_val hm hk hz' (by omega) (Nat.le_refl _), elm_val hm hk hz' (Nat.le_refl _) (by omega), sylm _ (by omega)]
    exact bl_in h (by omega) (by omega) hi2 hi hj (by omega)
  · rw [elm_den hm h1 hz]
    have e : (lm A m).natAbs ≤ Hb m := lm_H h (by omega) (Nat.le_refl _) hm
    have e2 : ∀ k, k ≤ 5 → Hb k ≤ 9223372036854775807 := by decide
    have e3 := e2 m hm
    have e4 := hp hz
    omega
  · rw [elm_num hm h1 hz]
    have e := bm_G h (k := m - 1) (i := m - 1) (j := m) (by omega) (by omega) (by omega) (by omega) (by omega)
    have e2 : ∀ k, k ≤ 4 → Gb (k + 1) ≤ 9223372036854775806 := by decide
    have e3 := e2 (m - 1) (by omega)
    omega
end

