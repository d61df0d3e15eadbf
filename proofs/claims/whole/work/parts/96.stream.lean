/-! ===== the reader's tokens and the reference's text ===== -/
theorem tok_gt {b : Nat → Nat} {len a : Nat} (ha : a < len) : a < (tok b len a).2 := by
  unfold tok
  split
  · rename_i h
    show a < a + dgN b len a
    obtain ⟨-, -, e⟩ := fstN_spec (fun j => !isDg (b (a + j))) (len - a)
    by_cases c : dgN b len a = 0
    · unfold dgN at c
      rw [c] at e
      have := e (by omega)
      rw [Nat.add_zero, h] at this
      cases this
    · omega
  · split
    · rename_i h
      show a < a + ltN b len a
      obtain ⟨-, -, e⟩ := fstN_spec (fun j => !isLt (b (a + j))) (len - a)
      by_cases c : ltN b len a = 0
      · unfold ltN at c
        rw [c] at e
        have := e (by omega)
        rw [Nat.add_zero, h] at this
        cases this
      · omega
    · exact Nat.lt_succ_self a
theorem tks_fuel {b : Nat → Nat} {len : Nat} : ∀ f g a, len - a ≤ f → len - a ≤ g → tks b len f a = tks b len g a
  | 0, 0, _, _, _ => rfl
  | 0, g + 1, a, h, _ => by rw [tks, tks, if_neg (by omega)]
  | f + 1, 0, a, _, h => by rw [tks, tks, if_neg (by omega)]
  | f + 1, g + 1, a, h1, h2 => by
    rw [tks, tks]
    by_cases c : a < len
    · rw [if_pos c, if_pos c, tks_fuel f g (a + 1) (by omega) (by omega), tks_fuel f g (tok b len a).2 (by have := tok_gt (b := b) c; omega) (by have := tok_gt (b := b) c; omega)]
    · rw [if_neg c, if_neg c]
/-- what is left from a on, the end behind it -/
def TL (b : Nat → Nat) (len a : Nat) : List (Int × Nat × Nat) := tks b len 600 a ++ [(256, len, 0)]
/-- the next token and where it ends -/
def ctX (b : Nat → Nat) (len a : Nat) : (Int × Nat × Nat) × Nat := if skP b len a < len then tok b len (skP b len a) else ((256, len, 0), len)
section
variable {b : Nat → Nat} {len : Nat}
theorem TL_end {a : Nat} (h : len ≤ a) : TL b len a = [(256, len, 0)] := by
  unfold TL
  rw [tks, if_neg (by omega)]
  rfl
theorem TL_tok {a : Nat} (hl : len ≤ 600) (h : a < len) (hb : b a ≠ 32) : TL b len a = (tok b len a).1 :: TL b len (tok b len a).2 := by
  unfold TL
  have e : tks b len 600 a = (tok b len a).1 :: tks b len 599 (tok b len a).2 := by
    rw [tks, if_pos h, if_neg hb]
  rw [e, tks_fuel 599 600 (tok b len a).2 (by have := tok_gt (b := b) h; omega) (by omega)]
  rfl
theorem TL_one {a : Nat} (hl : len ≤ 600) (h : a < len) (hb : b a = 32) : TL b len a = TL b len (a + 1) := by
  unfold TL
  have e : tks b len 600 a = tks b len 599 (a + 1) := by
    rw [tks, if_pos h, if_pos hb]
  rw [e, tks_fuel 599 600 (a + 1) (by omega) (by omega)]
theorem TL_sp (hl : len ≤ 600) {a : Nat} (ha : a ≤ len) : TL b len a = TL b len (skP b len a) := by
  obtain ⟨h1, h2, -, h4⟩ := skP_le (b := b) ha
  have key : ∀ c, a + c ≤ skP b len a → TL b len a = TL b len (a + c) := by
    intro c
    induction c with
    | zero => exact fun _ => rfl
    | succ c ih =>
      intro hc
      rw [ih (by omega), TL_one hl (by omega) (h4 (a + c) (by omega) (by omega))]
      rfl
  have e := key (skP b len a - a) (by omega)
  rw [show a + (skP b len a - a) = skP b len a by omega] at e
  exact e
theorem TL_ct (hl : len ≤ 600) {a : Nat} (ha : a ≤ len) : TL b len a = (if skP b len a < len then (ctX b len a).1 :: TL b len (ctX b len a).2 else [(256, len, 0)]) := by
  rw [TL_sp hl ha]
  unfold ctX
  by_cases c : skP b len a < len
  · rw [if_pos c, if_pos c]
    exact TL_tok hl c ((skP_le (b := b) ha).2.2.1 c)
  · rw [if_neg c]
    exact TL_end (by omega)
theorem ct_le {a : Nat} (ha : a ≤ len) : (ctX b len a).2 ≤ len ∧ a ≤ (ctX b len a).2 := by
  unfold ctX
  obtain ⟨h1, h2, -, -⟩ := skP_le (b := b) ha
  split
  · rename_i c
    have := tok_le (b := b) c
    have := tok_gt (b := b) c
    omega
  · exact ⟨Nat.le_refl _, ha⟩
/-- the reader stands before the tokens from a on -/
def At (b : Nat → Nat) (len : Nat) (R : RD) (a : Nat) : Prop := a ≤ len ∧ R.nx + (TL b len a).length = R.T.2.2 ∧ ∀ i, i < (TL b len a).length → (R.T.2.1.1 (R.nx + i), R.T.2.1.2.1 (R.nx + i), R.T.2.1.2.2 (R.nx + i)) = (TL b len a).getD i (256, 0, 0)
theorem TL_pos {a : Nat} : 1 ≤ (TL b len a).length := by
  unfold TL
  rw [List.length_append]
  show 1 ≤ _ + 1
  omega
theorem At.take {R : RD} {a : Nat} (hl : len ≤ 600) (h : At b len R a) : (R.take.kd, R.take.st, R.take.vl) = (ctX b len a).1 ∧ At b len R.take (ctX b len a).2 := by
  obtain ⟨h1, h2, h3⟩ := h
  have e0 := h3 0 TL_pos
  rw [Nat.add_zero] at e0
  have eT := TL_ct (b := b) hl h1
  have ek : (R.take.kd, R.take.st, R.take.vl) = (R.T.2.1.1 R.nx, R.T.2.1.2.1 R.nx, R.T.2.1.2.2 R.nx) := rfl
  have en : R.take.nx = if R.nx < R.T.2.2 - 1 then R.nx + 1 else R.nx := rfl
  have et : R.take.T = R.T := rfl
  by_cases c : skP b len a < len
  · rw [if_pos c] at eT
    rw [eT] at h2 h3 e0
    rw [List.length_cons] at h2 h3
    have hp := TL_pos (b := b) (len := len) (a := (ctX b len a).2)
    rw [if_pos (by omega)] at en
    refine ⟨ek.trans e0, (ct_le h1).1, by rw [en, et]; omega, fun i hi => ?_⟩
    have e := h3 (i + 1) (by omega)
    rw [en, et, show R.nx + 1 + i = R.nx + (i + 1) by omega, e]
    rfl
  · rw [if_neg c] at eT
    rw [eT] at h2 h3 e0
    have hc : ctX b len a = ((256, len, 0), len) := if_neg c
    rw [hc]
    have h2' : R.nx + 1 = R.T.2.2 := h2
    rw [if_neg (by omega)] at en
    have eE : TL b len len = [(256, len, 0)] := TL_end (Nat.le_refl _)
    refine ⟨ek.trans e0, Nat.le_refl _, ?_, ?_⟩
    · show R.take.nx + (TL b len len).length = R.take.T.2.2
      rw [en, et, eE]
      exact h2
    · show ∀ i, i < (TL b len len).length → (R.take.T.2.1.1 (R.take.nx + i), R.take.T.2.1.2.1 (R.take.nx + i), R.take.T.2.1.2.2 (R.take.nx + i)) = (TL b len len).getD i (256, 0, 0)
      rw [en, et, eE]
      exact h3
/-- the two ways of reading a number: alike up to 9999 -/
theorem num_AR (b : Nat → Nat) (a : Nat) : ∀ k, numA b a k = min 10000 (numR b a k)
  | 0 => rfl
  | k + 1 => by
    have ih := num_AR b a k
    rw [numA, numR, ih]
    omega
end

