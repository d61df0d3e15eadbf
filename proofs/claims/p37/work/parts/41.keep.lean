/-! ===== the component's changes ===== -/
def CS.keep (Z : CS) : CS := (Z.1, Z.2.1, (Z.2.2.1 + 1) % 8, min (Z.2.2.2.1 + 1) 8, fun k => if k = Z.2.2.1 then (Z.2.2.2.2 Z.2.2.1).cop Z.2.1 else Z.2.2.2.2 k)
def CS.sG (Z : CS) (G : GT) : CS := (Z.1, G, Z.2.2)
def okZ (Z : CS) : Prop := okG Z.2.1 ∧ Z.2.1.b ≤ 6 ∧ Z.2.2.1 < 8 ∧ Z.2.2.2.1 ≤ 8 ∧ Z.1.2.2 ≤ 600
section
variable {v : Ev} {h : Hp} {top x : Nat} {Z : CS}
/-- a change leaves the cells outside alone -/
def frX (h h' : Hp) (x : Nat) : Prop := ∀ a, (a < x ∨ x + 96 ≤ a) → h' a = h a
theorem c_keepX (K : okX v h x Z) (z : okZ Z) : Cal v mX4_keep 3 0 0 [.ref (x + 7), .ref (x + 1)] h top (fun r h' top' => r = none ∧ top = top' ∧ okX v h' x Z.keep ∧ frX h h' x) noX := by
  obtain ⟨-, -, hp8, hc8, -⟩ := z
  have hH := K.1.2.2.1
  refine (c_keep (top := top) hH hp8 hc8 K.1.2.1 (by omega)).mono (fun r h' top' => ?_)
  rintro ⟨rfl, rfl, rfl⟩
  have hk : kA (x + 7) Z.2.2.1 = x + 9 + 6 * Z.2.2.1 := by unfold kA; omega
  have fo : ∀ a, (a < x + 7 ∨ x + 7 + 50 ≤ a) → hp (gH v h (kA (x + 7) Z.2.2.1) ((Z.2.2.2.2 Z.2.2.1).cop Z.2.1)) (x + 7) (hE (x + 7) ((Z.2.2.1 + 1) % 8) (min (Z.2.2.2.1 + 1) 8)) a = h a := fun a ha => by
    rw [hp_ne _ _ (by omega), gH_out _ _ _ _ (by omega)]
  refine ⟨rfl, rfl, K.uH ⟨hp_eq _ _ _, ?_, fun i hi => ?_⟩ fo, fun a ha => fo a (by omega)⟩
  · rw [hp_ne _ _ (by omega), gH_out _ _ _ _ (by omega)]
    exact hH.2.1
  · show isG v _ (kA (x + 7) i) (if i = Z.2.2.1 then (Z.2.2.2.2 Z.2.2.1).cop Z.2.1 else Z.2.2.2.2 i)
    by_cases e : i = Z.2.2.1
    · rw [if_pos e, e]
      exact (gH_is _ _ _ _).put (by omega)
    · rw [if_neg e]
      exact (hH.2.2 i hi).frame (fun a h1 h2 => by
        unfold kA at h1 h2
        rw [hp_ne _ _ (by omega), gH_out _ _ _ _ (by omega)])
theorem okX.sG (K : okX v h x Z) (G : GT) : okX v (gH v h (x + 1) G) x (Z.sG G) := K.uG (gH_is _ _ _ _) (fun a ha => gH_out _ _ _ _ ha)
theorem frX.gH {h0 : Hp} {G : GT} (f : frX h0 h x) : frX h0 (gH v h (x + 1) G) x := fun a ha => (gH_out _ _ _ _ (by omega)).trans (f a ha)
def pM (v : Ev) (h : Hp) (top x : Nat) (Z : CS) (r0 : Option Value) : Option Value → Hp → Nat → Prop := fun r h' top' => r = r0 ∧ top = top' ∧ okX v h' x Z ∧ frX h h' x
def sbA (a i p : Nat) : Nat := if p = 0 then dif a (2 ^ i) else a ||| 2 ^ i
def CS.und (Z : CS) : CS := if Z.2.2.2.1 = 0 then Z else (Z.1, Z.2.1.cop (Z.2.2.2.2 ((Z.2.2.1 + 7) % 8)), (Z.2.2.1 + 7) % 8, Z.2.2.2.1 - 1, Z.2.2.2.2)
end

