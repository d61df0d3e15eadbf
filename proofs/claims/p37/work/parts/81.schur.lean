/-! ===== dominance and its eliminations ===== -/
theorem le0_of {x p : Int} (hp : 0 < p) (h : x * p ≤ 0) : x ≤ 0 := by
  by_cases c : 0 < x
  · have := Int.mul_pos c hp
    omega
  · omega
theorem ge0_of {x p : Int} (hp : 0 < p) (h : 0 ≤ x * p) : 0 ≤ x := by
  by_cases c : x < 0
  · have := Int.mul_neg_of_neg_of_pos c hp
    omega
  · omega
theorem lt0_of {x p : Int} (hp : 0 < p) (h : x * p < 0) : x < 0 := by
  by_cases c : 0 ≤ x
  · have := Int.mul_nonneg c (Int.le_of_lt hp)
    omega
  · omega
theorem gt0_of {x p : Int} (hp : 0 < p) (h : 0 < x * p) : 0 < x := by
  by_cases c : x ≤ 0
  · have := Int.mul_nonneg (show 0 ≤ -x by omega) (Int.le_of_lt hp)
    rw [Int.neg_mul] at this
    omega
  · omega
/-- the sum of c entries from k on -/
def zS (f : Nat → Int) (k : Nat) : Nat → Int
  | 0 => 0
  | c + 1 => zS f k c + f (k + c)
theorem zS_hd (f : Nat → Int) (k : Nat) : ∀ c, zS f k (c + 1) = f k + zS f (k + 1) c
  | 0 => by
    show 0 + f (k + 0) = f k + 0
    rw [Nat.add_zero, Int.zero_add, Int.add_zero]
  | c + 1 => by
    show zS f k (c + 1) + f (k + (c + 1)) = f k + (zS f (k + 1) c + f (k + 1 + c))
    rw [zS_hd f k c, show k + (c + 1) = k + 1 + c by omega, Int.add_assoc]
theorem zS_cong {f g : Nat → Int} {k : Nat} : ∀ c, (∀ j, k ≤ j → j < k + c → f j = g j) → zS f k c = zS g k c
  | 0, _ => rfl
  | c + 1, h => by
    show zS f k c + f (k + c) = zS g k c + g (k + c)
    rw [zS_cong c (fun j h1 h2 => h j h1 (by omega)), h (k + c) (by omega) (by omega)]
theorem zS_mul (f : Nat → Int) (p : Int) (k : Nat) : ∀ c, zS f k c * p = zS (fun j => f j * p) k c
  | 0 => Int.zero_mul p
  | c + 1 => by
    show (zS f k c + f (k + c)) * p = zS (fun j => f j * p) k c + f (k + c) * p
    rw [← zS_mul f p k c, Int.add_mul]
theorem zS_lin (f g : Nat → Int) (a b : Int) (k : Nat) : ∀ c, zS (fun j => f j * a - b * g j) k c = zS f k c * a - b * zS g k c
  | 0 => by simp [zS]
  | c + 1 => by
    show zS (fun j => f j * a - b * g j) k c + (f (k + c) * a - b * g (k + c)) = (zS f k c + f (k + c)) * a - b * (zS g k c + g (k + c))
    rw [zS_lin f g a b k c, Int.add_mul, Int.mul_add]
    omega
theorem zS_le0 {f : Nat → Int} {k : Nat} : ∀ c, (∀ j, k ≤ j → j < k + c → f j ≤ 0) → zS f k c ≤ 0 ∧ (0 ≤ zS f k c → ∀ j, k ≤ j → j < k + c → f j = 0)
  | 0, _ => ⟨Int.le_refl _, fun _ j h1 h2 => by omega⟩
  | c + 1, h => by
    obtain ⟨e1, e2⟩ := zS_le0 c (fun j h1 h2 => h j h1 (by omega))
    have e3 := h (k + c) (by omega) (by omega)
    have e4 : zS f k (c + 1) = zS f k c + f (k + c) := rfl
    refine ⟨by omega, fun z j h1 h2 => ?_⟩
    by_cases ej : j = k + c
    · subst ej
      omega
    · exact e2 (by omega) j h1 (by omega)
/-- the sum of a row after k steps -/
def rS (A : Nat → Nat → Int) (n k i : Nat) : Int := zS (bm A k i) k (n - k)
/-- after k steps: off the diagonal nothing above 0, no row's sum below 0 -/
def mI (A : Nat → Nat → Int) (n k : Nat) : Prop :=
  0 < lm A k ∧ (∀ i j, k ≤ i → i < n → k ≤ j → j < n → i ≠ j → bm A k i j ≤ 0) ∧ (∀ i, k ≤ i → i < n → 0 ≤ rS A n k i)
section
variable {A : Nat → Nat → Int} {n k : Nat}
/-- the diagonal entry: not below 0; and if it is 0, all of its row is -/
theorem mI.diag (h : mI A n k) {i : Nat} (hi : k ≤ i) (hn : i < n) : 0 ≤ bm A k i i ∧ (bm A k i i = 0 → rS A n k i = 0 ∧ ∀ j, k ≤ j → j < n → bm A k i j = 0) := by
  have e1 := h.2.2 i hi hn
  have key : ∀ c, k + c ≤ n → zS (bm A k i) k c = zS (fun j => if j = i then 0 else bm A k i j) k c + (if i < k + c then bm A k i i else 0) := by
    intro c
    induction c with
    | zero =>
      intro _
      rw [if_neg (by omega)]
      rfl
    | succ c ih =>
      intro hc
      have e := ih (by omega)
      show zS (bm A k i) k c + bm A k i (k + c) = zS (fun j => if j = i then 0 else bm A k i j) k c + (if k + c = i then 0 else bm A k i (k + c)) + _
      rw [e]
      by_cases c1 : k + c = i
      · rw [if_neg (by omega), if_pos c1, if_pos (by omega), c1]
        try omega
      · rw [if_neg c1]
        by_cases c2 : i < k + c
        · rw [if_pos c2, if_pos (by omega)]
          try omega
        · rw [if_neg c2, if_neg (by omega)]
          try omega
  have e2 := key (n - k) (by omega)
  rw [if_pos (by omega)] at e2
  have e3 := zS_le0 (f := fun j => if j = i then 0 else bm A k i j) (k := k) (n - k) (fun j h1 h2 => by
    by_cases c : j = i
    · rw [if_pos c]
      omega
    · rw [if_neg c]
      exact h.2.1 i j hi hn h1 (by omega) (by omega))
  unfold rS at e1 ⊢
  refine ⟨by omega, fun z => ⟨by omega, fun j h1 h2 => ?_⟩⟩
  by_cases c : j = i
  · rw [c, z]
  · have e4 := e3.2 (by omega) j h1 (by omega)
    rw [if_neg c] at e4
    exact e4
theorem rS_step (hn : n ≤ 5) (hk : k < n) {i : Nat} (hi : k < i) (hin : i < n) : rS A n (k + 1) i * lm A k = rS A n k i * bm A k k k - bm A k i k * rS A n k k := by
  have e0 : ∀ r, rS A n k r = bm A k r k + zS (bm A k r) (k + 1) (n - (k + 1)) := by
    intro r
    unfold rS
    rw [show n - k = (n - (k + 1)) + 1 by omega, zS_hd]
  have e1 : rS A n (k + 1) i * lm A k = zS (bm A k i) (k + 1) (n - (k + 1)) * bm A k k k - bm A k i k * zS (bm A k k) (k + 1) (n - (k + 1)) := by
    unfold rS
    rw [zS_mul, ← zS_lin]
    exact zS_cong _ (fun j h1 h2 => (sylm A (by omega) i j).symm)
  rw [e0 i, e0 k, e1, Int.add_mul, Int.mul_add]
  omega
theorem mI.step (h : mI A n k) (hn : n ≤ 5) (hk : k < n) (hz : bm A k k k ≠ 0) : mI A n (k + 1) := by
  have hd := (h.diag (Nat.le_refl k) hk).1
  have hd2 : 0 < bm A k k k := by omega
  refine ⟨hd2, fun i j hi hin hj hjn hij => le0_of h.1 ?_, fun i hi hin => ge0_of h.1 ?_⟩
  · rw [← sylm A (by omega) i j]
    have e1 := h.2.1 i j (by omega) hin (by omega) hjn hij
    have e2 := h.2.1 i k (by omega) hin (by omega) hk (by omega)
    have e3 := h.2.1 k j (by omega) hk (by omega) hjn (by omega)
    have e4 := Int.mul_nonneg_of_nonpos_of_nonpos e2 e3
    have e5 := Int.mul_nonneg (show 0 ≤ -bm A k i j by omega) hd
    rw [Int.neg_mul] at e5
    omega
  · rw [rS_step hn hk (by omega) hin]
    have e2 := h.2.1 i k (by omega) hin (by omega) hk (by omega)
    have e5 := Int.mul_nonneg (h.2.2 i (by omega) hin) hd
    have e6 := Int.mul_nonneg (show 0 ≤ -bm A k i k by omega) (h.2.2 k (by omega) hk)
    rw [Int.neg_mul] at e6
    omega
/-- something leaks out of the row, or out of one reached from it in r steps -/
def lkR (A : Nat → Nat → Int) (n k : Nat) : Nat → Nat → Prop
  | 0, i => 0 < rS A n k i
  | r + 1, i => ∃ j, i ≠ j ∧ k ≤ j ∧ j < n ∧ bm A k i j < 0 ∧ lkR A n k r j
def Lks (A : Nat → Nat → Int) (n k i : Nat) : Prop := ∃ r, lkR A n k r i
theorem Lks.leak {i : Nat} (h : 0 < rS A n k i) : Lks A n k i := ⟨0, h⟩
theorem Lks.step {i j : Nat} (h1 : i ≠ j) (h2 : k ≤ j) (h3 : j < n) (h4 : bm A k i j < 0) (h5 : Lks A n k j) : Lks A n k i := by
  obtain ⟨r, hr⟩ := h5
  exact ⟨r + 1, j, h1, h2, h3, h4, hr⟩
theorem Lks.pos (h : mI A n k) (hk : k < n) (hl : Lks A n k k) : bm A k k k ≠ 0 := by
  intro z
  obtain ⟨z1, z2⟩ := (h.diag (Nat.le_refl k) hk).2 z
  obtain ⟨r, hr⟩ := hl
  cases r with
  | zero =>
    have a : 0 < rS A n k k := hr
    omega
  | succ r =>
    obtain ⟨j, a, b, c, d, -⟩ := hr
    have := z2 _ b c
    omega
theorem Lks.next (h : mI A n k) (hn : n ≤ 5) (hk : k < n) (hz : bm A k k k ≠ 0) {i : Nat} (hl : Lks A n k i) : (k < i → i < n → Lks A n (k + 1) i) ∧ (i = k → 0 < rS A n k k ∨ ∃ j, k < j ∧ j < n ∧ bm A k k j < 0 ∧ Lks A n (k + 1) j) := by
  have hd := (h.diag (Nat.le_refl k) hk).1
  have hd2 : 0 < bm A k k k := by omega
  have sy : ∀ i j, k < i → i < n → k < j → j < n → i ≠ j → (bm A k i j < 0 ∨ (bm A k i k < 0 ∧ bm A k k j < 0)) → bm A (k + 1) i j < 0 := by
    intro i j hi hin hj hjn hij c
    refine lt0_of h.1 ?_
    rw [← sylm A (by omega) i j]
    have e1 := h.2.1 i j (by omega) hin (by omega) hjn hij
    have e2 := h.2.1 i k (by omega) hin (by omega) hk (by omega)
    have e3 := h.2.1 k j (by omega) hk (by omega) hjn (by omega)
    have e4 := Int.mul_nonneg_of_nonpos_of_nonpos e2 e3
    have e5 := Int.mul_nonneg (show 0 ≤ -bm A k i j by omega) hd
    rw [Int.neg_mul] at e5
    rcases c with c | ⟨c1, c2⟩
    · have := Int.mul_neg_of_neg_of_pos c hd2
      omega
    · have := Int.mul_pos_of_neg_of_neg c1 c2
      omega
  have sl : ∀ i, k < i → i < n → (0 < rS A n k i ∨ (bm A k i k < 0 ∧ 0 < rS A n k k)) → 0 < rS A n (k + 1) i := by
    intro i hi hin c
    refine gt0_of h.1 ?_
    rw [rS_step hn hk hi hin]
    have e2 := h.2.1 i k (by omega) hin (by omega) hk (by omega)
    have e5 := Int.mul_nonneg (h.2.2 i (by omega) hin) hd
    have e6 := Int.mul_nonneg (show 0 ≤ -bm A k i k by omega) (h.2.2 k (by omega) hk)
    rw [Int.neg_mul] at e6
    rcases c with c | ⟨c1, c2⟩
    · have := Int.mul_pos c hd2
      omega
    · have := Int.mul_pos (show 0 < -bm A k i k by omega) c2
      rw [Int.neg_mul] at this
      omega
  obtain ⟨r, hr⟩ := hl
  induction r generalizing i with
  | zero =>
    have a : 0 < rS A n k i := hr
    exact ⟨fun h1 h2 => .leak (sl _ h1 h2 (Or.inl a)), fun e => Or.inl (by rw [e] at a; exact a)⟩
  | succ r ih0 =>
    obtain ⟨j, a, b, c, d, hr⟩ := hr
    have ih := ih0 hr
    refine ⟨fun h1 h2 => ?_, fun e => ?_⟩
    · by_cases ej : j = k
      · rcases ih.2 ej with q | ⟨j2, q1, q2, q3, q4⟩
        · exact .leak (sl _ h1 h2 (Or.inr ⟨by rw [ej] at d; exact d, q⟩))
        · by_cases ei : j2 = i
          · rw [← ei]
            exact q4
          · exact .step (fun z => ei z.symm) q1 q2 (sy i j2 h1 h2 q1 q2 (fun z => ei z.symm) (Or.inr ⟨by rw [ej] at d; exact d, q3⟩)) q4
      · exact .step a (by omega) c (sy i j h1 h2 (by omega) c a (Or.inl d)) (ih.1 (by omega) c)
    · right
      subst e
      exact ⟨j, by omega, c, d, ih.1 (by omega) c⟩
/-- where everything leaks, every leading minor lies above 0 -/
theorem mI.all (hn : n ≤ 5) (h : mI A n 0) (hl : ∀ i, i < n → Lks A n 0 i) : ∀ k, k ≤ n → mI A n k ∧ ∀ i, k ≤ i → i < n → Lks A n k i
  | 0, _ => ⟨h, fun i _ hi => hl i hi⟩
  | k + 1, hk => by
    obtain ⟨e1, e2⟩ := mI.all hn h hl k (by omega)
    have hz := Lks.pos e1 (by omega) (e2 k (Nat.le_refl _) (by omega))
    exact ⟨e1.step hn (by omega) hz, fun i hi hin => ((e2 i (by omega) hin).next e1 hn (by omega) hz).1 (by omega) hin⟩
/-- the leading minors, as long as none is 0 -/
theorem mI.some (hn : n ≤ 5) (h : mI A n 0) : ∀ k, k ≤ n → (∀ t, t < k → lm A (t + 1) ≠ 0) → mI A n k
  | 0, _, _ => h
  | k + 1, hk, hz => (mI.some hn h k (by omega) (fun t ht => hz t (by omega))).step hn (by omega) (hz k (by omega))
end

