/-! ===== small things for all modules ===== -/
section
variable {v : Ev} {M : Md} {R : Room} {K : List Frame → Array Value → State → State → Prop} {t0 cells slots : Nat} {h : Hp} {top pc : Nat} {ls : List (Option Value)} {st : List Value}
theorem r_ls (ls2 : List (Option Value)) (e : ls = ls2) (k : J v M R K t0 cells slots h top pc ls2 st) : J v M R K t0 cells slots h top pc ls st := e ▸ k
/-- the same judgement told otherwise -/
theorem r_eq {h2 : Hp} {st2 : List Value} (eh : h = h2) (es : st = st2) (k : J v M R K t0 cells slots h2 top pc ls st2) : J v M R K t0 cells slots h top pc ls st := by
  subst eh; subst es; exact k
end
def pR (w : Value) (h : Hp) (top : Nat) : Option Value → Hp → Nat → Prop := fun r h' top' => r = some w ∧ h' = h ∧ top' = top
def pV (h : Hp) (top : Nat) : Option Value → Hp → Nat → Prop := fun r h' top' => r = none ∧ h' = h ∧ top' = top
def iF (f : Nat → Nat) : Nat → Int32 := fun k => nI (f k)
def upN (f : Nat → Nat) (i x : Nat) : Nat → Nat := fun k => if k = i then x else f k
theorem upN_eq (f : Nat → Nat) (i x : Nat) : upN f i x i = x := if_pos rfl
theorem upN_ne (f : Nat → Nat) {i k : Nat} (x : Nat) (n : k ≠ i) : upN f i x k = f k := if_neg n
theorem upd_iF (f : Nat → Nat) (i x : Nat) : upd (iF f) i (nI x) = iF (upN f i x) := by
  funext k
  unfold upd iF upN
  split <;> rfl
def sN (f : Nat → Nat) : Nat → Nat
  | 0 => 0
  | n + 1 => sN f n + f n
theorem sN_le {f : Nat → Nat} {c : Nat} : ∀ n, (∀ k, k < n → f k ≤ c) → sN f n ≤ n * c
  | 0, _ => by simp [sN]
  | n + 1, hh => by
    have h1 := sN_le n (fun k hk => hh k (by omega))
    have h2 := hh n (by omega)
    rw [sN, Nat.succ_mul]
    omega
theorem sN_cong {f g : Nat → Nat} : ∀ n, (∀ k, k < n → f k = g k) → sN f n = sN g n
  | 0, _ => rfl
  | n + 1, hh => by rw [sN, sN, sN_cong n (fun k hk => hh k (by omega)), hh n (by omega)]
theorem lit_nI (n : Nat) : (OfNat.ofNat n : Int32) = nI n := rfl

