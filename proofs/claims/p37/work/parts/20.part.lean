/-! ===== Partition ===== -/
def wto (W B : Nat → Nat) (n x b : Nat) : Nat := sN (fun u => if B u = b then W (x * 6 + u) else 0) n
theorem wto_le {W B : Nat → Nat} {n x b c : Nat} (hn : n ≤ 6) (hx : x < 6) (hW : ∀ k, k < 36 → W k ≤ c) : wto W B n x b ≤ 6 * c := by
  have h1 : wto W B n x b ≤ n * c := sN_le n (fun k hk => by
    split
    · exact hW _ (by omega)
    · omega)
  have h2 : n * c ≤ 6 * c := Nat.mul_le_mul_right _ hn
  omega
theorem degN_le {W : Nat → Nat} {n x c : Nat} (hn : n ≤ 6) (hx : x < 6) (hW : ∀ k, k < 36 → W k ≤ c) : degN W x n ≤ 6 * c := by
  have h1 : degN W x n ≤ n * c := sN_le n (fun k hk => hW _ (by omega))
  have h2 : n * c ≤ 6 * c := Nat.mul_le_mul_right _ hn
  omega
def dg1 (W : Nat → Nat) (n x : Nat) : Nat := max 1 (degN W x n)
/-- the transitions of x and y to b differ -/
def dfB (W B : Nat → Nat) (n x y b : Nat) : Bool := decide (b ≠ B x) && decide (wto W B n x b * dg1 W n y ≠ wto W B n y b * dg1 W n x)
def fdN (W B : Nat → Nat) (n nb x y : Nat) : Nat := fstN (dfB W B n x y) nb
def fdR (k nb : Nat) : Int32 := if k < nb then nI k else zI (-1)
/-- x and y are in one block, and their transitions differ -/
def pqB (W B : Nat → Nat) (n nb x y : Nat) : Bool := decide (x < y) && (decide (B x = B y) && decide (fdN W B n nb x y < nb))
def pqY (W B : Nat → Nat) (n nb x : Nat) : Nat := fstN (pqB W B n nb x) n
def pqX (W B : Nat → Nat) (n nb : Nat) : Nat := fstN (fun x => decide (pqY W B n nb x < n)) n
/-- what parted tells -/
def ptN (W B : Nat → Nat) (n nb : Nat) : Int := if pqX W B n nb < n then ((100 * pqX W B n nb + 10 * pqY W B n nb (pqX W B n nb) + fdN W B n nb (pqX W B n nb) (pqY W B n nb (pqX W B n nb)) : Nat) : Int) else -1
def stw (W B : Nat → Nat) (n nb x y : Nat) : Bool := decide (B x = B y) && !decide (fdN W B n nb x y < nb)
