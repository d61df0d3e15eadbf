/-! ===== what can be reached: both sides alike ===== -/
/-- closed under the edges -/
def clo (W : Nat → Nat) (n S : Nat) : Prop := ∀ a b, a < n → b < n → S.testBit a = true → 0 < W (a * 6 + b) → S.testBit b = true
theorem p2_bit {u k : Nat} : (2 ^ u).testBit k = true ↔ u = k := by
  rw [Nat.testBit_two_pow]
  simp
theorem or_bit {S T k : Nat} : (S ||| T).testBit k = true ↔ S.testBit k = true ∨ T.testBit k = true := by
  rw [Nat.testBit_or]
  simp
theorem nbm_bit {W : Nat → Nat} {x k : Nat} : ∀ n, (nbm W x n).testBit k = true ↔ k < n ∧ 0 < W (x * 6 + k)
  | 0 => by simp [nbm]
  | n + 1 => by
    have ih := nbm_bit (W := W) (x := x) (k := k) n
    rw [nbm]
    split
    · rename_i c
      rw [ih]
      constructor
      · exact fun h => ⟨by omega, h.2⟩
      · intro h
        by_cases e : k = n
        · rw [e] at h
          have := h.2
          omega
        · exact ⟨by omega, h.2⟩
    · rename_i c
      rw [or_bit, ih, p2_bit]
      constructor
      · rintro (h | h)
        · exact ⟨by omega, h.2⟩
        · rw [← h]
          exact ⟨by omega, by omega⟩
      · intro h
        by_cases e : k = n
        · exact Or.inr e.symm
        · exact Or.inl ⟨by omega, h.2⟩
/-- a round of a search -/
def rnd (W : Nat → Nat) (n : Nat) (f : Nat → Nat) : Prop :=
  (∀ S u, S.testBit u = true → (f S).testBit u = true) ∧ (∀ S a b, a < n → b < n → S.testBit a = true → 0 < W (a * 6 + b) → (f S).testBit b = true) ∧ ∀ S C, clo W n C → (∀ u, S.testBit u = true → C.testBit u = true) → ∀ u, (f S).testBit u = true → C.testBit u = true
section
variable {W : Nat → Nat} {n : Nat}
theorem cIn_mono {S k : Nat} (h : S.testBit k = true) : ∀ u, (cIn W n S u).testBit k = true
  | 0 => h
  | u + 1 => by
    rw [cIn]
    split
    · exact or_bit.mpr (Or.inl (cIn_mono h u))
    · exact cIn_mono h u
theorem cIn_up {S k u : Nat} (h : (cIn W n S u).testBit k = true) : ∀ c, (cIn W n S (u + c)).testBit k = true
  | 0 => h
  | c + 1 => by
    show (cIn W n S (u + c + 1)).testBit k = true
    rw [cIn]
    split
    · exact or_bit.mpr (Or.inl (cIn_up h c))
    · exact cIn_up h c
theorem cIn_in {S C : Nat} (hC : clo W n C) (h : ∀ u, S.testBit u = true → C.testBit u = true) : ∀ u, u ≤ n → ∀ k, (cIn W n S u).testBit k = true → C.testBit k = true
  | 0, _, k, hk => h k hk
  | u + 1, hu, k, hk => by
    have ih := cIn_in hC h u (by omega)
    rw [cIn] at hk
    split at hk
    · rename_i c
      rcases or_bit.mp hk with q | q
      · exact ih k q
      · obtain ⟨q1, q2⟩ := (nbm_bit n).mp q
        exact hC u k (by omega) q1 (ih u c) q2
    · exact ih k hk
theorem cIn_rnd : rnd W n (fun S => cIn W n S n) := by
  refine ⟨fun S u h => cIn_mono h n, fun S a b ha hb h hw => ?_, fun S C hC h u hu => cIn_in hC h n (Nat.le_refl _) u hu⟩
  have e : (cIn W n S (a + 1)).testBit b = true := by
    rw [cIn, if_pos (cIn_mono h a)]
    exact or_bit.mpr (Or.inr ((nbm_bit n).mpr ⟨hb, hw⟩))
  have e2 := cIn_up e (n - (a + 1))
  rw [show a + 1 + (n - (a + 1)) = n by omega] at e2
  exact e2
theorem riB_up {S a k b : Nat} (h : (riB W a S b).testBit k = true) : ∀ c, (riB W a S (b + c)).testBit k = true
  | 0 => h
  | c + 1 => by
    show (riB W a S (b + c + 1)).testBit k = true
    rw [riB]
    split
    · exact or_bit.mpr (Or.inl (riB_up h c))
    · exact riB_up h c
theorem riA_up {S k a : Nat} (h : (riA W n S a).testBit k = true) : ∀ c, (riA W n S (a + c)).testBit k = true
  | 0 => h
  | c + 1 => riB_in (riA_up h c) n
theorem riB_cl {S C a : Nat} (hC : clo W n C) (ha : a < n) (h : ∀ u, S.testBit u = true → C.testBit u = true) : ∀ b, b ≤ n → ∀ k, (riB W a S b).testBit k = true → C.testBit k = true
  | 0, _, k, hk => h k hk
  | b + 1, hb, k, hk => by
    have ih := riB_cl hC ha h b (by omega)
    rw [riB] at hk
    split at hk
    · rename_i c
      rcases or_bit.mp hk with q | q
      · exact ih k q
      · rw [← p2_bit.mp q]
        exact hC a b ha (by omega) (ih a c.1) c.2
    · exact ih k hk
theorem riA_cl {S C : Nat} (hC : clo W n C) (h : ∀ u, S.testBit u = true → C.testBit u = true) : ∀ a, a ≤ n → ∀ k, (riA W n S a).testBit k = true → C.testBit k = true
  | 0, _, k, hk => h k hk
  | a + 1, ha, k, hk => riB_cl hC (by omega) (riA_cl hC h a (by omega)) n (Nat.le_refl _) k hk
theorem riA_rnd : rnd W n (fun S => riA W n S n) := by
  refine ⟨fun S u h => riA_in h n, fun S a b ha hb h hw => ?_, fun S C hC h u hu => riA_cl hC h n (Nat.le_refl _) u hu⟩
  have e : (riB W a (riA W n S a) (b + 1)).testBit b = true := by
    rw [riB, if_pos ⟨riB_in (riA_in h a) b, hw⟩]
    exact or_bit.mpr (Or.inr (p2_bit.mpr rfl))
  have e1 : (riA W n S (a + 1)).testBit b = true := by
    have := riB_up e (n - (b + 1))
    rw [show b + 1 + (n - (b + 1)) = n by omega] at this
    exact this
  have e2 := riA_up e1 (n - (a + 1))
  rw [show a + 1 + (n - (a + 1)) = n by omega] at e2
  exact e2
def itf (f : Nat → Nat) (x : Nat) : Nat → Nat
  | 0 => 2 ^ x
  | r + 1 => f (itf f x r)
theorem cOut_itf {x : Nat} : ∀ r, cOut W n x r = itf (fun S => cIn W n S n) x r
  | 0 => rfl
  | r + 1 => by
    rw [cOut, cOut_itf r]
    rfl
theorem riR_itf {x : Nat} : ∀ r, riR W n x r = itf (fun S => riA W n S n) x r
  | 0 => rfl
  | r + 1 => by
    rw [riR, riR_itf r]
    rfl
def cnB (S : Nat) (n : Nat) : Nat := sN (fun u => Bool.toNat (S.testBit u)) n
theorem sN_mono {f g : Nat → Nat} : ∀ n, (∀ k, k < n → f k ≤ g k) → sN f n ≤ sN g n ∧ ((∃ k, k < n ∧ f k < g k) → sN f n < sN g n)
  | 0, _ => ⟨Nat.le_refl _, fun ⟨k, hk, _⟩ => by omega⟩
  | n + 1, h => by
    obtain ⟨e1, e2⟩ := sN_mono n (fun k hk => h k (by omega))
    have e3 := h n (by omega)
    rw [sN, sN]
    refine ⟨by omega, ?_⟩
    rintro ⟨k, hk, q⟩
    by_cases c : k = n
    · rw [c] at q
      omega
    · have := e2 ⟨k, by omega, q⟩
      omega
theorem cnB_full {S : Nat} : ∀ n, n ≤ cnB S n → ∀ u, u < n → S.testBit u = true
  | 0, _, u, hu => by omega
  | n + 1, h, u, hu => by
    have e : cnB S (n + 1) = cnB S n + Bool.toNat (S.testBit n) := rfl
    have e1 : cnB S n ≤ n * 1 := sN_le n (fun k _ => by cases S.testBit k <;> decide)
    have e2 : Bool.toNat (S.testBit n) ≤ 1 := by cases S.testBit n <;> decide
    by_cases c : u = n
    · rw [c]
      cases q : S.testBit n with
      | true => rfl
      | false =>
        rw [q] at e
        have : Bool.toNat false = 0 := rfl
        omega
    · exact cnB_full n (by omega) u (by omega)
theorem rnd.cnt {f : Nat → Nat} (hf : rnd W n f) {x : Nat} (hx : x < n) : ∀ r, clo W n (itf f x r) ∨ r + 1 ≤ cnB (itf f x r) n
  | 0 => by
    right
    have := (sN_mono (f := fun _ => 0) (g := fun u => Bool.toNat ((2 ^ x).testBit u)) n (fun k _ => Nat.zero_le _)).2 ⟨x, hx, by rw [p2_bit.mpr rfl]; decide⟩
    show 0 + 1 ≤ sN (fun u => Bool.toNat ((2 ^ x).testBit u)) n
    omega
  | r + 1 => by
    by_cases hc : clo W n (itf f x r)
    · left
      intro a b ha hb h1 h2
      have e1 := hf.2.2 _ _ hc (fun u hu => hu) a h1
      exact hf.1 _ _ (hc a b ha hb e1 h2)
    · right
      rcases rnd.cnt hf hx r with q | q
      · exact absurd q hc
      · have e : ∃ a b, a < n ∧ b < n ∧ (itf f x r).testBit a = true ∧ 0 < W (a * 6 + b) ∧ (itf f x r).testBit b = false := by
          refine Classical.byContradiction (fun z => hc ?_)
          intro a b ha hb h1 h2
          cases q2 : (itf f x r).testBit b with
          | true => rfl
          | false => exact absurd ⟨a, b, ha, hb, h1, h2, q2⟩ z
        obtain ⟨a, b, ha, hb, h1, h2, h3⟩ := e
        have e1 := hf.2.1 _ a b ha hb h1 h2
        have := (sN_mono (f := fun u => Bool.toNat ((itf f x r).testBit u)) (g := fun u => Bool.toNat ((f (itf f x r)).testBit u)) n (fun k _ => by
          cases q2 : (itf f x r).testBit k with
          | true =>
            show Bool.toNat true ≤ Bool.toNat ((f (itf f x r)).testBit k)
            rw [hf.1 _ _ q2]
            decide
          | false => exact Nat.zero_le _)).2 ⟨b, hb, by
            show Bool.toNat ((itf f x r).testBit b) < Bool.toNat ((f (itf f x r)).testBit b)
            rw [e1, h3]
            decide⟩
        show r + 1 + 1 ≤ sN (fun u => Bool.toNat ((f (itf f x r)).testBit u)) n
        have q' : r + 1 ≤ sN (fun u => Bool.toNat ((itf f x r).testBit u)) n := q
        omega
theorem rnd.cl {f : Nat → Nat} (hf : rnd W n f) {x r : Nat} (hx : x < n) (hr : n ≤ r + 1) : clo W n (itf f x r) := by
  rcases hf.cnt hx r with q | q
  · exact q
  · intro a b ha hb _ _
    exact cnB_full n (by omega) b hb
theorem rnd.self {f : Nat → Nat} (hf : rnd W n f) {x : Nat} : ∀ r, (itf f x r).testBit x = true
  | 0 => p2_bit.mpr rfl
  | r + 1 => hf.1 _ _ (rnd.self hf r)
theorem rnd.least {f : Nat → Nat} (hf : rnd W n f) {x C : Nat} (hC : clo W n C) (hx : C.testBit x = true) : ∀ r u, (itf f x r).testBit u = true → C.testBit u = true
  | 0, u, h => by
    rw [← p2_bit.mp h]
    exact hx
  | r + 1, u, h => hf.2.2 _ _ hC (rnd.least hf hC hx r) u h
theorem rcm_clo {x : Nat} (hx : x < n) (hn : n ≤ 6) : clo W n (rcm W n x) := by
  unfold rcm
  rw [riR_itf]
  exact riA_rnd.cl hx (by omega)
theorem rcm_least {x C : Nat} (hC : clo W n C) (hx : C.testBit x = true) {u : Nat} (h : (rcm W n x).testBit u = true) : C.testBit u = true := by
  unfold rcm at h
  rw [riR_itf] at h
  exact riA_rnd.least hC hx 6 u h
/-- the two reached sets are one -/
theorem rch_rcm {x : Nat} (hx : x < n) (hn : n ≤ 6) : rch W n x = rcm W n x := by
  have h1 : clo W n (rch W n x) := by
    unfold rch
    rw [cOut_itf]
    exact cIn_rnd.cl hx (by omega)
  have h2 : (rch W n x).testBit x = true := by
    unfold rch
    rw [cOut_itf]
    exact cIn_rnd.self _
  have h3 : ∀ u, (rch W n x).testBit u = true → (rcm W n x).testBit u = true := by
    intro u h
    unfold rch at h
    rw [cOut_itf] at h
    exact cIn_rnd.least (rcm_clo hx hn) rcm_self _ u h
  refine Nat.eq_of_testBit_eq (fun u => ?_)
  cases q : (rch W n x).testBit u with
  | true => exact (h3 u q).symm
  | false =>
    cases q2 : (rcm W n x).testBit u with
    | false => rfl
    | true =>
      have := rcm_least h1 h2 q2
      rw [q] at this
      cases this
end

