/-! ===== floats that are not negative ===== -/
theorem fl_fin {f : Jvm.FP.Core.Fmt} {c : Nat} {q : Int} (hc : c < 2 ^ f.p) (h1 : f.qmin ≤ q) : Jvm.FP.Core.bound f false c q = .inf false ∨ ∃ c' q', Jvm.FP.Core.bound f false c q = .fin false c' q' ∧ c' < 2 ^ f.p ∧ f.qmin ≤ q' ∧ q' ≤ f.qmax := by
  unfold Jvm.FP.Core.bound
  split
  · next h => exact Or.inr ⟨c, q, rfl, hc, h1, h⟩
  · exact Or.inl rfl
theorem fl_round {f : Jvm.FP.Core.Fmt} (hp : f.tails < 2 ^ f.p) (hq : f.qmin ≤ f.qmax) (n d : Nat) (e : Int) : Jvm.FP.Core.roundRatio f false n d e = .inf false ∨ ∃ c q, Jvm.FP.Core.roundRatio f false n d e = .fin false c q ∧ c < 2 ^ f.p ∧ f.qmin ≤ q ∧ q ≤ f.qmax := by
  unfold Jvm.FP.Core.roundRatio
  split
  · exact Or.inr ⟨0, f.qmin, rfl, by omega, Int.le_refl _, hq⟩
  · unfold Jvm.FP.Core.roundAt Jvm.FP.Core.settle
    have h1 : f.qmin ≤ Jvm.FP.Core.quantum f n d e := by unfold Jvm.FP.Core.quantum; omega
    split
    · next h => exact fl_fin h h1
    · exact fl_fin hp (by omega)
theorem fl_enc32 {x : Jvm.FP.Core.Datum} (h : x = .inf false ∨ ∃ c q, x = .fin false c q ∧ c < 2 ^ Jvm.FP.Core.b32.p ∧ Jvm.FP.Core.b32.qmin ≤ q ∧ q ≤ Jvm.FP.Core.b32.qmax) : Jvm.FP.Core.encode Jvm.FP.Core.b32 x ≤ 0x7f800000 := by
  rcases h with rfl | ⟨c, q, rfl, h1, h2, h3⟩
  · decide
  · have e1 : Jvm.FP.Core.b32.qmin = -149 := by decide
    have e2 : Jvm.FP.Core.b32.qmax = 104 := by decide
    have e3 : Jvm.FP.Core.b32.tails = 8388608 := by decide
    have e4 : Jvm.FP.Core.b32.exps = 256 := by decide
    have e5 : (2 : Nat) ^ Jvm.FP.Core.b32.p = 16777216 := by decide
    show (if c < Jvm.FP.Core.b32.tails then Jvm.FP.Core.assemble Jvm.FP.Core.b32 false 0 c else Jvm.FP.Core.assemble Jvm.FP.Core.b32 false ((q - Jvm.FP.Core.b32.qmin).toNat + 1) (c - Jvm.FP.Core.b32.tails)) ≤ _
    rw [e5] at h1
    rw [e1] at h2 ⊢
    rw [e2] at h3
    unfold Jvm.FP.Core.assemble
    rw [e3, e4]
    split
    · simp
      omega
    · simp
      omega
theorem fl_enc64 {x : Jvm.FP.Core.Datum} (h : x = .inf false ∨ ∃ c q, x = .fin false c q ∧ c < 2 ^ Jvm.FP.Core.b64.p ∧ Jvm.FP.Core.b64.qmin ≤ q ∧ q ≤ Jvm.FP.Core.b64.qmax) : Jvm.FP.Core.encode Jvm.FP.Core.b64 x ≤ 0x7ff0000000000000 := by
  rcases h with rfl | ⟨c, q, rfl, h1, h2, h3⟩
  · decide
  · have e1 : Jvm.FP.Core.b64.qmin = -1074 := by decide
    have e2 : Jvm.FP.Core.b64.qmax = 971 := by decide
    have e3 : Jvm.FP.Core.b64.tails = 4503599627370496 := by decide
    have e4 : Jvm.FP.Core.b64.exps = 2048 := by decide
    have e5 : (2 : Nat) ^ Jvm.FP.Core.b64.p = 9007199254740992 := by decide
    show (if c < Jvm.FP.Core.b64.tails then Jvm.FP.Core.assemble Jvm.FP.Core.b64 false 0 c else Jvm.FP.Core.assemble Jvm.FP.Core.b64 false ((q - Jvm.FP.Core.b64.qmin).toNat + 1) (c - Jvm.FP.Core.b64.tails)) ≤ _
    rw [e5] at h1
    rw [e1] at h2 ⊢
    rw [e2] at h3
    unfold Jvm.FP.Core.assemble
    rw [e3, e4]
    split
    · simp
      omega
    · simp
      omega
theorem fl_dec32 {n : Nat} (h : n ≤ 0x7f800000) : (n = 0x7f800000 ∧ Jvm.FP.Core.decode Jvm.FP.Core.b32 n = .inf false) ∨ ∃ c q, Jvm.FP.Core.decode Jvm.FP.Core.b32 n = .fin false c q ∧ (0 < n → c ≠ 0) := by
  have e3 : Jvm.FP.Core.b32.tails = 8388608 := by decide
  have e4 : Jvm.FP.Core.b32.exps = 256 := by decide
  unfold Jvm.FP.Core.decode Jvm.FP.Core.fieldE Jvm.FP.Core.fieldT Jvm.FP.Core.fieldS
  rw [e3, e4]
  have s0 : (n / 8388608 / 256 % 2 == 1) = false := by
    have : n / 8388608 / 256 % 2 = 0 := by omega
    rw [this]
    rfl
  rw [s0]
  split
  · next h1 =>
    have : n = 0x7f800000 := by omega
    rw [if_pos (by omega)]
    exact Or.inl ⟨this, rfl⟩
  · split
    · exact Or.inr ⟨_, _, rfl, fun h0 => by omega⟩
    · exact Or.inr ⟨_, _, rfl, fun h0 => by omega⟩
def P32 (x : UInt32) : Prop := x.toNat ≤ 0x7f800000
theorem P32.n32 {x : UInt32} (h : P32 x) : vf_n32 x := by
  unfold vf_n32
  rw [UInt32.le_iff_toNat_le, UInt32.toNat_and]
  exact Nat.le_trans Nat.and_le_left h
theorem P32_of {n : Nat} (h : n ≤ 0x7f800000) : P32 (.ofNat n) := by
  unfold P32
  rw [UInt32.toNat_ofNat']
  exact Nat.le_trans (Nat.mod_le _ _) h
theorem t32 : Jvm.FP.Core.b32.tails < 2 ^ Jvm.FP.Core.b32.p := by decide
theorem q32 : Jvm.FP.Core.b32.qmin ≤ Jvm.FP.Core.b32.qmax := by decide
theorem P32_add {x y : UInt32} (hx : P32 x) (hy : P32 y) : P32 (Jvm.FP.fadd x y) := by
  refine P32_of (fl_enc32 ?_)
  rcases fl_dec32 hx with ⟨-, h1⟩ | ⟨c, q, h1, -⟩ <;> rcases fl_dec32 hy with ⟨-, h2⟩ | ⟨d, r, h2, -⟩ <;> rw [h1, h2]
  · exact Or.inl rfl
  · exact Or.inl rfl
  · exact Or.inl rfl
  · have e1 : Jvm.FP.Core.sumUnits false c q false d r (min q r) = ((Jvm.FP.Core.inUnits c q (min q r) + Jvm.FP.Core.inUnits d r (min q r) : Nat) : Int) := by
      unfold Jvm.FP.Core.sumUnits Jvm.FP.Core.signed
      simp
    have hs : Jvm.FP.Core.sumSign false false (Jvm.FP.Core.sumUnits false c q false d r (min q r)) = false := by
      unfold Jvm.FP.Core.sumSign
      rw [e1]
      split
      · rfl
      · exact decide_eq_false (by omega)
    have e2 : Jvm.FP.Core.exactSum (.fin false c q) (.fin false d r) = .fin false (Jvm.FP.Core.sumUnits false c q false d r (min q r)).natAbs (min q r) := by
      show Jvm.FP.Core.Datum.fin (Jvm.FP.Core.sumSign false false (Jvm.FP.Core.sumUnits false c q false d r (min q r))) _ _ = _
      rw [hs]
    rw [e2]
    exact fl_round t32 q32 _ _ _
theorem P32_mul {x y : UInt32} (hx : P32 x) (hy : 0 < y.toNat ∧ y.toNat < 0x7f800000) : P32 (Jvm.FP.fmul x y) := by
  refine P32_of (fl_enc32 ?_)
  rcases fl_dec32 (Nat.le_of_lt hy.2) with ⟨h0, -⟩ | ⟨d, r, h2, h3⟩
  · omega
  have h4 := h3 hy.1
  rcases fl_dec32 hx with ⟨-, h1⟩ | ⟨c, q, h1, -⟩ <;> rw [h1, h2]
  · show Jvm.FP.Core.round Jvm.FP.Core.b32 (if d = 0 then .nan else .inf (false != false)) = _ ∨ _
    rw [if_neg h4]
    exact Or.inl rfl
  · exact fl_round t32 q32 _ _ _
theorem P32_d {x : UInt32} (hx : P32 x) : (Jvm.FP.f2d x).toNat ≤ 0x7ff0000000000000 := by
  have hn : Jvm.FP.Core.fIsNaN x = false := by
    unfold Jvm.FP.Core.fIsNaN Jvm.FP.Core.isNaN
    rcases fl_dec32 hx with ⟨-, h1⟩ | ⟨c, q, h1, -⟩ <;> rw [h1] <;> simp
  unfold Jvm.FP.f2d
  rw [hn, if_neg (by simp)]
  show (UInt64.ofNat _).toNat ≤ _
  rw [UInt64.toNat_ofNat']
  refine Nat.le_trans (Nat.mod_le _ _) (fl_enc64 ?_)
  rcases fl_dec32 hx with ⟨-, h1⟩ | ⟨c, q, h1, -⟩ <;> rw [h1]
  · exact Or.inl rfl
  · exact fl_round (by decide) (by decide) _ _ _
theorem P32_d64 {x : UInt32} (hx : P32 x) : vf_n64 (Jvm.FP.f2d x) := by
  unfold vf_n64
  rw [UInt64.le_iff_toNat_le, UInt64.toNat_and]
  exact Nat.le_trans Nat.and_le_left (P32_d hx)
theorem fl_dec64 {n : Nat} (h : n ≤ 0x7ff0000000000000) : Jvm.FP.Core.decode Jvm.FP.Core.b64 n = .inf false ∨ ∃ c q, Jvm.FP.Core.decode Jvm.FP.Core.b64 n = .fin false c q := by
  have e3 : Jvm.FP.Core.b64.tails = 4503599627370496 := by decide
  have e4 : Jvm.FP.Core.b64.exps = 2048 := by decide
  unfold Jvm.FP.Core.decode Jvm.FP.Core.fieldE Jvm.FP.Core.fieldT Jvm.FP.Core.fieldS
  rw [e3, e4]
  have s0 : (n / 4503599627370496 / 2048 % 2 == 1) = false := by
    have : n / 4503599627370496 / 2048 % 2 = 0 := by omega
    rw [this]
    rfl
  rw [s0]
  split
  · next h1 =>
    rw [if_pos (by omega)]
    exact Or.inl rfl
  · split
    · exact Or.inr ⟨_, _, rfl⟩
    · exact Or.inr ⟨_, _, rfl⟩
theorem P32_cmp {x : UInt32} (hx : P32 x) : Jvm.FP.dcmp (Jvm.FP.f2d x) (Jvm.FP.f2d x) = some .eq := by
  show Jvm.FP.Core.order (Jvm.FP.Core.decode Jvm.FP.Core.b64 (Jvm.FP.f2d x).toNat) (Jvm.FP.Core.decode Jvm.FP.Core.b64 (Jvm.FP.f2d x).toNat) = _
  rcases fl_dec64 (P32_d hx) with h1 | ⟨c, q, h1⟩ <;> rw [h1]
  · rfl
  · show some (compare _ _) = _
    simp
/-- a step's chance in float -/
def fQ (a b : Nat) : UInt32 := FP.fdiv (FP.l2f (lI a)) (FP.l2f (lI b))
theorem fQ_ok : ∀ a, a < 10 → ∀ b, b < 55 → 0 < b → (fQ a b).toNat < 0x7f800000 ∧ (a ≠ 0 → 0 < (fQ a b).toNat) ∧ Op.cmpValue (FP.fcmp (fQ a b) FP.fconst0) .l = if a = 0 then 0 else 1 := by decide +kernel
theorem P32_0 : P32 FP.fconst0 := by unfold P32; decide
theorem P32_1 : P32 FP.fconst1 := by unfold P32; decide

