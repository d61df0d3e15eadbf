/-! ===== what is popped, level by level ===== -/
theorem rel_u (s : Nat) (R : RD) : R.rel s = if 0 < R.wc ∧ s ≤ str (R.wt (R.wc - 1)) then R.pop1.rel s else R := by
  unfold RD.rel
  by_cases h : 0 < R.wc
  · obtain ⟨m, hm⟩ : ∃ m, R.wc = m + 1 := ⟨R.wc - 1, by omega⟩
    have e1 : R.pop1.wc = m := by
      have e : R.pop1.wc = R.wc - 1 := RD.pop1_wc ..
      omega
    rw [e1]
    have e2 : RD.relF s R.wc R = RD.relF s (m + 1) R := by rw [hm]
    rw [e2, RD.relF]
  · rw [if_neg (fun z => h z.1), show R.wc = 0 by omega]
    rfl
theorem rel_stop {s : Nat} {R : RD} (h : R.wc = 0 ∨ str (R.wt (R.wc - 1)) < s) : R.rel s = R := by
  rw [rel_u, if_neg (fun z => by omega)]
theorem rel_comp (s : Nat) : ∀ m (R : RD), R.wc = m → R.rel s = (R.rel (s + 1)).rel s
  | 0, R, h => by rw [rel_stop (s := s + 1) (Or.inl h)]
  | m + 1, R, h => by
    by_cases c : s + 1 ≤ str (R.wt (R.wc - 1))
    · have e1 : R.pop1.wc = R.wc - 1 := RD.pop1_wc ..
      rw [rel_u s R, if_pos ⟨by omega, by omega⟩, rel_u (s + 1) R, if_pos ⟨by omega, c⟩]
      exact rel_comp s m R.pop1 (by omega)
    · rw [rel_stop (s := s + 1) (Or.inr (by omega))]
theorem rel_3 (R : RD) : R.rel 3 = R := rel_stop (Or.inr (Nat.lt_succ_of_le (str_2 _)))
/-- from one level down to the next, nothing of it waiting below -/
theorem rel_dn {s b : Nat} {R : RD} (h : (R.rel (s + 1)).wc = b) (hb : b = 0 ∨ str (R.wt (b - 1)) < s) : R.rel s = R.rel (s + 1) := by
  rw [rel_comp s R.wc R rfl]
  refine rel_stop ?_
  have e : (R.rel (s + 1)).wt = R.wt := relF_wt _ _ _
  rw [h, e]
  exact hb
/-- one operator on top -/
theorem rel_top {s : Nat} {R : RD} (h : 0 < R.wc) (hs : s ≤ str (R.wt (R.wc - 1))) : R.rel s = R.pop1.rel s := by
  rw [rel_u, if_pos ⟨h, hs⟩]

