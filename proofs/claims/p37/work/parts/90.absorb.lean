/-! ===== absorption: both sides alike; the gains ===== -/
section
variable {W : Nat → Nat} {n i j a : Nat}
theorem csG_99 (hW : gdW W n) {T : Nat → Nat} (hT : ∀ k, k < 36 → T k ≤ 99) : ∀ k, k < n → (csG W T n k).natAbs ≤ 4455 := by
  intro k hk
  have h6 := hW.1
  have key : ∀ c, c ≤ n → 0 ≤ csS W T k c ∧ csS W T k c ≤ 99 * ((sN (fun u => W (k * 6 + u)) c : Nat) : Int) := by
    intro c
    induction c with
    | zero => exact fun _ => ⟨Int.le_refl _, Int.le_refl _⟩
    | succ c ih =>
      intro hc
      obtain ⟨e1, e2⟩ := ih (by omega)
      have e3 := hT (k * 6 + c) (by omega)
      have e4 : W (k * 6 + c) * T (k * 6 + c) ≤ W (k * 6 + c) * 99 := Nat.mul_le_mul_left _ e3
      have e5 : ((W (k * 6 + c) : Nat) : Int) * ((T (k * 6 + c) : Nat) : Int) = ((W (k * 6 + c) * T (k * 6 + c) : Nat) : Int) := (Int.natCast_mul _ _).symm
      show 0 ≤ csS W T k c + _ * _ ∧ csS W T k c + _ * _ ≤ 99 * ((sN (fun u => W (k * 6 + u)) c + W (k * 6 + c) : Nat) : Int)
      rw [e5]
      omega
  obtain ⟨e1, e2⟩ := key n (Nat.le_refl _)
  have e3 : sN (fun u => W (k * 6 + u)) n ≤ 45 := deg_le hW.1 hk hW.2.1 hW.2.2.2
  unfold csG
  omega
theorem atG_9 (hW : gdW W n) (hj : j < n) : ∀ k, k < n → (atG W j k).natAbs ≤ 4455 := by
  intro k hk
  have h6 := hW.1
  have := hW.2.2.2 (k * 6 + j) (by omega)
  unfold atG
  omega
/-- a set met: a vertex in both -/
theorem met_iff (hW : gdW W n) (hi : i < n) : rcm W n i &&& a ≠ 0 ↔ ∃ t, t < n ∧ (rcm W n i).testBit t = true ∧ a.testBit t = true := by
  constructor
  · intro h
    have h2 : ∃ t, (rcm W n i &&& a).testBit t = true := by
      refine Classical.byContradiction (fun z => h (Nat.eq_of_testBit_eq (fun t => ?_)))
      rw [Nat.zero_testBit]
      cases q : (rcm W n i &&& a).testBit t with
      | false => rfl
      | true => exact absurd ⟨t, q⟩ z
    obtain ⟨t, ht⟩ := h2
    rw [Nat.testBit_and, Bool.and_eq_true] at ht
    refine ⟨t, ?_, ht⟩
    have e := ht.1
    rw [← rch_rcm hi hW.1] at e
    refine Classical.byContradiction (fun z => ?_)
    rw [Nat.testBit_lt_two_pow (Nat.lt_of_lt_of_le (rch_lt hi) (Nat.pow_le_pow_right (by omega) (show n ≤ t by omega)))] at e
    cases e
  · rintro ⟨t, h1, h2, h3⟩ z
    have : (rcm W n i &&& a).testBit t = true := by
      rw [Nat.testBit_and, h2, h3]
      rfl
    rw [z, Nat.zero_testBit] at this
    cases this
end
