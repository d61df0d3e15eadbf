/-! ===== the reference: reachable sets, steps, blocks ===== -/
def riB (W : Nat → Nat) (a S : Nat) : Nat → Nat
  | 0 => S
  | b + 1 => if (riB W a S b).testBit a = true ∧ 0 < W (a * 6 + b) then riB W a S b ||| 2 ^ b else riB W a S b
def riA (W : Nat → Nat) (n S : Nat) : Nat → Nat
  | 0 => S
  | a + 1 => riB W a (riA W n S a) n
def riR (W : Nat → Nat) (n x : Nat) : Nat → Nat
  | 0 => 2 ^ x
  | r + 1 => riA W n (riR W n x r) n
/-- the set that the reference reaches -/
def rcm (W : Nat → Nat) (n x : Nat) : Nat := riR W n x 6
theorem riB_lt {W : Nat → Nat} {a S : Nat} (hS : S < 64) : ∀ b, b ≤ 6 → riB W a S b < 64
  | 0, _ => hS
  | b + 1, hb => by
    have ih := riB_lt (W := W) (a := a) hS b (by omega)
    rw [riB]
    split
    · exact bs_or_lt (n := 6) ih (Nat.pow_lt_pow_right (by omega) (by omega))
    · exact ih
theorem riA_lt {W : Nat → Nat} {n S : Nat} (hS : S < 64) (hn : n ≤ 6) : ∀ a, riA W n S a < 64
  | 0 => hS
  | a + 1 => riB_lt (riA_lt hS hn a) n hn
theorem riR_lt {W : Nat → Nat} {n x : Nat} (hx : x < 6) (hn : n ≤ 6) : ∀ r, riR W n x r < 64
  | 0 => p2_64 hx
  | r + 1 => riA_lt (riR_lt hx hn r) hn n
theorem rcm_lt {W : Nat → Nat} {n x : Nat} (hx : x < 6) (hn : n ≤ 6) : rcm W n x < 64 := riR_lt hx hn 6
theorem tbT {b : Bool} : Bool.toNat b ≠ 0 → b = true := by cases b <;> simp
theorem tbF {b : Bool} : Bool.toNat b = 0 → b = false := by cases b <;> simp
theorem tbNar (b : Bool) : narrow FieldType.boolean (.int (nI (Bool.toNat b))) = .int (nI (Bool.toNat b)) := by cases b <;> rfl
