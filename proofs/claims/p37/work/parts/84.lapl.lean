/-! ===== the equations of a graph: dominance, leaks ===== -/
def lapM (W : Nat → Nat) (n : Nat) (s : Nat → Nat) (i j : Nat) : Int := if i = j then (degN W (s i) n : Nat) else -((W (s i * 6 + s j) : Nat) : Int)
/-- among the first c of s -/
def iS (s : Nat → Nat) : Nat → Nat → Bool
  | 0, _ => false
  | c + 1, u => iS s c u || decide (s c = u)
theorem iS_iff {s : Nat → Nat} {u : Nat} : ∀ {c}, iS s c u = true ↔ ∃ j, j < c ∧ s j = u
  | 0 => by simp [iS]
  | c + 1 => by
    rw [iS, Bool.or_eq_true, iS_iff, decide_eq_true_eq]
    constructor
    · rintro (⟨j, h1, h2⟩ | h)
      · exact ⟨j, by omega, h2⟩
      · exact ⟨c, by omega, h⟩
    · rintro ⟨j, h1, h2⟩
      by_cases e : j = c
      · right
        rw [← e]
        exact h2
      · exact Or.inl ⟨j, by omega, h2⟩
/-- m numbers below n, each once -/
def enu (s : Nat → Nat) (m n : Nat) : Prop := (∀ i, i < m → s i < n) ∧ ∀ i j, i < m → j < m → s i = s j → i = j
theorem zS_one {i : Nat} {d : Int} : ∀ c, zS (fun j => if j = i then d else 0) 0 c = if i < c then d else 0
  | 0 => rfl
  | c + 1 => by
    show zS (fun j => if j = i then d else 0) 0 c + (if 0 + c = i then d else 0) = _
    rw [zS_one c]
    (repeat' split) <;> omega
theorem zS_sub (f g : Nat → Int) (k : Nat) : ∀ c, zS (fun j => f j - g j) k c = zS f k c - zS g k c
  | 0 => rfl
  | c + 1 => by
    show zS (fun j => f j - g j) k c + (f (k + c) - g (k + c)) = (zS f k c + f (k + c)) - (zS g k c + g (k + c))
    rw [zS_sub f g k c]
    omega
theorem zS_add (f g : Nat → Int) (k : Nat) : ∀ c, zS (fun j => f j + g j) k c = zS f k c + zS g k c
  | 0 => rfl
  | c + 1 => by
    show zS (fun j => f j + g j) k c + (f (k + c) + g (k + c)) = (zS f k c + f (k + c)) + (zS g k c + g (k + c))
    rw [zS_add f g k c]
    omega
theorem zS_sN (f : Nat → Nat) : ∀ c, zS (fun j => (f j : Int)) 0 c = (sN f c : Nat)
  | 0 => rfl
  | c + 1 => by
    show zS (fun j => (f j : Int)) 0 c + (f (0 + c) : Int) = ((sN f c + f c : Nat) : Int)
    rw [zS_sN f c, Nat.zero_add]
    omega
theorem zS_ge {f : Nat → Int} : ∀ c, (∀ j, j < c → 0 ≤ f j) → 0 ≤ zS f 0 c ∧ ∀ j, j < c → f j ≤ zS f 0 c
  | 0, _ => ⟨Int.le_refl _, fun j hj => by omega⟩
  | c + 1, h => by
    obtain ⟨e1, e2⟩ := zS_ge c (fun j hj => h j (by omega))
    have e3 := h c (by omega)
    have e4 : zS f 0 (c + 1) = zS f 0 c + f (0 + c) := rfl
    rw [Nat.zero_add] at e4
    refine ⟨by omega, fun j hj => ?_⟩
    by_cases ej : j = c
    · rw [ej]
      omega
    · have := e2 j (by omega)
      omega
/-- a sum over an enumeration, and over all -/
theorem zS_enu {s : Nat → Nat} {m n : Nat} (hs : enu s m n) (f : Nat → Int) : ∀ c, c ≤ m → zS (fun j => f (s j)) 0 c = zS (fun u => if iS s c u = true then f u else 0) 0 n
  | 0, _ => by
    have : ∀ n, zS (fun u => if iS s 0 u = true then f u else 0) 0 n = 0 := by
      intro n
      induction n with
      | zero => rfl
      | succ n ih =>
        show zS (fun u => if iS s 0 u = true then f u else 0) 0 n + 0 = 0
        rw [ih]
        rfl
    exact (this n).symm
  | c + 1, hc => by
    show zS (fun j => f (s j)) 0 c + f (s (0 + c)) = _
    rw [zS_enu hs f c (by omega), Nat.zero_add]
    have e : zS (fun u => if iS s (c + 1) u = true then f u else 0) 0 n = zS (fun u => (if iS s c u = true then f u else 0) + (if u = s c then f (s c) else 0)) 0 n := by
      refine zS_cong n (fun u _ _ => ?_)
      show (if iS s (c + 1) u = true then f u else 0) = (if iS s c u = true then f u else 0) + (if u = s c then f (s c) else 0)
      by_cases e : u = s c
      · have e1 : iS s (c + 1) u = true := iS_iff.mpr ⟨c, by omega, e.symm⟩
        have e2 : ¬ iS s c u = true := by
          intro z
          obtain ⟨j, h1, h2⟩ := iS_iff.mp z
          have := hs.2 j c (by omega) (by omega) (by rw [h2, e])
          omega
        rw [if_pos e1, if_neg e2, if_pos e, e]
        omega
      · have e1 : iS s (c + 1) u = iS s c u := by
          rw [iS, decide_eq_false (fun z => e z.symm), Bool.or_false]
        rw [e1, if_neg e, Int.add_zero]
    rw [e, zS_add, zS_one, if_pos (hs.1 c (by omega))]
section
variable {W s : Nat → Nat} {n m : Nat}
theorem lap_sum (hs : enu s m n) (hz : ∀ x, x < n → W (x * 6 + x) = 0) {i : Nat} (hi : i < m) : zS (lapM W n s i) 0 m = zS (fun u => if iS s m u = true then 0 else ((W (s i * 6 + u) : Nat) : Int)) 0 n := by
  have e1 : zS (lapM W n s i) 0 m = zS (fun j => (if j = i then ((degN W (s i) n : Nat) : Int) else 0) - ((W (s i * 6 + s j) : Nat) : Int)) 0 m := by
    refine zS_cong m (fun j _ hj => ?_)
    show lapM W n s i j = (if j = i then ((degN W (s i) n : Nat) : Int) else 0) - ((W (s i * 6 + s j) : Nat) : Int)
    unfold lapM
    by_cases c : i = j
    · rw [if_pos c, if_pos c.symm, ← c, hz _ (hs.1 i hi)]
      omega
    · rw [if_neg c, if_neg (fun z => c z.symm)]
      omega
  have e2 := zS_enu hs (fun u => ((W (s i * 6 + u) : Nat) : Int)) m (Nat.le_refl _)
  have e3 := zS_sN (fun u => W (s i * 6 + u)) n
  rw [e1, zS_sub, zS_one, if_pos hi, e2]
  unfold degN
  rw [← e3, ← zS_sub]
  refine zS_cong n (fun u _ _ => ?_)
  show ((W (s i * 6 + u) : Nat) : Int) - (if iS s m u = true then ((W (s i * 6 + u) : Nat) : Int) else 0) = if iS s m u = true then 0 else ((W (s i * 6 + u) : Nat) : Int)
  split <;> omega
theorem lap_row (hs : enu s m n) (hz : ∀ x, x < n → W (x * 6 + x) = 0) {i : Nat} (hi : i < m) : 0 ≤ zS (lapM W n s i) 0 m ∧ ((∃ u, u < n ∧ iS s m u = false ∧ 0 < W (s i * 6 + u)) → 0 < zS (lapM W n s i) 0 m) := by
  rw [lap_sum hs hz hi]
  have e := zS_ge (f := fun u => if iS s m u = true then 0 else ((W (s i * 6 + u) : Nat) : Int)) n (fun j _ => by
    show 0 ≤ if iS s m j = true then 0 else ((W (s i * 6 + j) : Nat) : Int)
    split <;> omega)
  refine ⟨e.1, ?_⟩
  rintro ⟨u, h1, h2, h3⟩
  have e2 := e.2 u h1
  rw [h2, if_neg (by intro z; cases z)] at e2
  omega
theorem lap_mI {A : Nat → Nat → Int} (hs : enu s m n) (hz : ∀ x, x < n → W (x * 6 + x) = 0) (hA : ∀ i j, i < m → j < m → A i j = lapM W n s i j) : mI A m 0 := by
  refine ⟨(by decide : (0 : Int) < 1), fun i j _ hi _ hj hij => ?_, fun i _ hi => ?_⟩
  · show A i j ≤ 0
    rw [hA i j hi hj, lapM, if_neg hij]
    omega
  · have e : rS A m 0 i = zS (lapM W n s i) 0 m := zS_cong m (fun j _ hj => hA i j hi (by omega))
    rw [e]
    exact (lap_row hs hz hi).1
/-- a set for a property -/
theorem set_of (P : Nat → Prop) : ∀ n, ∃ C : Nat, ∀ u, u < n → (C.testBit u = true ↔ P u)
  | 0 => ⟨0, fun u hu => by omega⟩
  | n + 1 => by
    obtain ⟨C, hC⟩ := set_of P n
    by_cases c : P n
    · refine ⟨C ||| 2 ^ n, fun u hu => ?_⟩
      rw [or_bit, p2_bit]
      by_cases e : u = n
      · rw [e]
        exact ⟨fun _ => c, fun _ => Or.inr rfl⟩
      · rw [hC u (by omega)]
        exact ⟨fun h => h.resolve_right (fun z => e z.symm), Or.inl⟩
    · refine ⟨C &&& (2 ^ n - 1), fun u hu => ?_⟩
      rw [Nat.testBit_and, Nat.testBit_two_pow_sub_one]
      by_cases e : u = n
      · rw [e]
        simp [c]
      · rw [decide_eq_true (by omega), Bool.and_true]
        exact hC u (by omega)
/-- what holds at x and goes over every edge holds all over -/
theorem rcm_ind {x : Nat} (P : Nat → Prop) (hP : ∀ a b, a < n → b < n → P a → 0 < W (a * 6 + b) → P b) (hx : x < n) (h : P x) {u : Nat} (hu : u < n) (hr : (rcm W n x).testBit u = true) : P u := by
  obtain ⟨C, hC⟩ := set_of P n
  refine (hC u hu).mp (rcm_least (fun a b ha hb h1 h2 => ?_) ((hC x hx).mpr h) hr)
  exact (hC b hb).mpr (hP a b ha hb ((hC a ha).mp h1) h2)
/-- everything leaks: all is reached from x, and so is one that is not among s -/
theorem lap_leak {A : Nat → Nat → Int} (hs : enu s m n) (hn : n ≤ 6) (hz : ∀ x, x < n → W (x * 6 + x) = 0) (hy : ∀ x y, x < n → y < n → W (x * 6 + y) = W (y * 6 + x)) (hA : ∀ i j, i < m → j < m → A i j = lapM W n s i j) {x t : Nat} (hx : x < n) (ht : t < n) (hrt : (rcm W n x).testBit t = true) (hst : iS s m t = false) (hr : ∀ i, i < m → (rcm W n x).testBit (s i) = true) : ∀ i, i < m → Lks A m 0 i := by
  have key : ∀ a b, a < n → b < n → (∀ i, i < m → s i = a → Lks A m 0 i) → 0 < W (a * 6 + b) → ∀ i, i < m → s i = b → Lks A m 0 i := by
    intro a b ha hb h1 h2 i hi hsi
    have h3 : 0 < W (s i * 6 + a) := by rw [hsi, ← hy a b ha hb]; exact h2
    cases c : iS s m a with
    | false =>
      refine Lks.leak ?_
      have e : rS A m 0 i = zS (lapM W n s i) 0 m := zS_cong m (fun j _ hj => hA i j hi (by omega))
      rw [e]
      exact (lap_row hs hz hi).2 ⟨a, ha, c, h3⟩
    | true =>
      obtain ⟨j, hj, hsj⟩ := iS_iff.mp c
      have hij : i ≠ j := by
        intro z
        rw [z, hsj] at h3
        have := hz a ha
        omega
      refine Lks.step hij (Nat.zero_le _) hj ?_ (h1 j hj hsj)
      show A i j < 0
      rw [hA i j hi hj, lapM, if_neg hij, hsj]
      omega
  intro i hi
  have ht' : ∀ i, i < m → s i = t → Lks A m 0 i := by
    intro i hi e
    rw [iS_iff.mpr ⟨i, hi, e⟩] at hst
    cases hst
  by_cases cx : ∀ i, i < m → s i = x → Lks A m 0 i
  · exact rcm_ind (fun a => ∀ i, i < m → s i = a → Lks A m 0 i) key hx cx (hs.1 i hi) (hr i hi) i hi rfl
  · refine absurd ht' (rcm_ind (W := W) (n := n) (fun a => ¬ ∀ i, i < m → s i = a → Lks A m 0 i) (fun a b ha hb h1 h2 h3 => h1 ?_) hx cx ht hrt)
    exact key b a hb ha h3 (by rw [← hy a b ha hb]; exact h2)
end

