/-! ===== the reference: meanTo ===== -/
theorem riB_in {W : Nat → Nat} {a S x : Nat} (h : S.testBit x = true) : ∀ b, (riB W a S b).testBit x = true
  | 0 => h
  | b + 1 => by
    have ih := riB_in (W := W) (a := a) h b
    rw [riB]
    split
    · rw [Nat.testBit_or, ih]
      rfl
    · exact ih
theorem riA_in {W : Nat → Nat} {n S x : Nat} (h : S.testBit x = true) : ∀ a, (riA W n S a).testBit x = true
  | 0 => h
  | a + 1 => riB_in (riA_in h a) n
theorem riR_in {W : Nat → Nat} {n x : Nat} : ∀ r, (riR W n x r).testBit x = true
  | 0 => by
    show (2 ^ x).testBit x = true
    exact Nat.testBit_two_pow_self
  | r + 1 => riA_in (riR_in r) n
theorem rcm_self {W : Nat → Nat} {n x : Nat} : (rcm W n x).testBit x = true := riR_in 6
/-- the unknown ones of a mean to a set -/
def mnL (W : Nat → Nat) (n T x : Nat) : List Nat := ascL (unP (rcm W n x) T) n
def mnR (W : Nat → Nat) (n T x : Nat) : Nat := (ascL (unP (rcm W n x) T) x).length
def mnN (W : Nat → Nat) (n T x : Nat) (g : Nat → Int) : Int := dtS (mnL W n T x).length (mnL W n T x).length 0 (rMt W n (mnL W n T x) g (mnR W n T x : Nat)) 1 1
def mnD (W : Nat → Nat) (n T x : Nat) (g : Nat → Int) : Int := dtS (mnL W n T x).length (mnL W n T x).length 0 (rMt W n (mnL W n T x) g (-1)) 1 1
def inF (z : Int) : Prop := -9223372036854775807 ≤ z ∧ z ≤ 9223372036854775807
def okMn (W : Nat → Nat) (n T x : Nat) (g : Nat → Int) : Prop := T.testBit x = false → (okDt (mnL W n T x).length (mnL W n T x).length 0 (rMt W n (mnL W n T x) g (mnR W n T x : Nat)) 1 ∧ inF (mnN W n T x g)) ∧ (okDt (mnL W n T x).length (mnL W n T x).length 0 (rMt W n (mnL W n T x) g (-1)) 1 ∧ inF (mnD W n T x g))
def mqN (W : Nat → Nat) (n T x : Nat) (g : Nat → Int) : Int := if T.testBit x = true then 0 else mnN W n T x g
def mqD (W : Nat → Nat) (n T x : Nat) (g : Nat → Int) : Int := if T.testBit x = true then 1 else mnD W n T x g
theorem unP_self {W : Nat → Nat} {n T x : Nat} (h : T.testBit x = false) : unP (rcm W n x) T x = true := by
  unfold unP
  rw [rcm_self, h]
  rfl
