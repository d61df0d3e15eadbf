/-! ===== trees: both sides alike ===== -/
theorem tr_bit : ∀ n, n < 7 → 2 ≤ n → ∀ u, u < n → (2 ^ n - 2).testBit u = unP (2 ^ n - 1) 1 u := by
  unfold unP
  decide
theorem tr_one : ∀ n, n < 7 → 2 ≤ n → unP (2 ^ n - 1) 1 1 = true ∧ unP (2 ^ n - 1) 1 0 = false := by
  unfold unP
  decide
section
variable {W : Nat → Nat} {n : Nat}
theorem fst_zero {P : Nat → Prop} : ∀ m, (∃ t, t < m ∧ P t) → ∃ t, t < m ∧ P t ∧ ∀ u, u < t → ¬ P u
  | 0, ⟨t, h, _⟩ => by omega
  | m + 1, h => by
    by_cases c : ∃ t, t < m ∧ P t
    · obtain ⟨t, h1, h2, h3⟩ := fst_zero m c
      exact ⟨t, by omega, h2, h3⟩
    · obtain ⟨t, h1, h2⟩ := h
      have e : t = m := by
        refine Classical.byContradiction (fun z => c ⟨t, by omega, h2⟩)
      exact ⟨t, h1, h2, fun u hu hp => c ⟨u, by omega, hp⟩⟩
theorem tr_all (hW : gdW W n) (hn : 2 ≤ n) : okA (trM W n) (trK n) ∧ trV W n = lm (rMt W n (ascL (unP (2 ^ n - 1) 1) n) (fun _ => 0) (-1)) (ascL (unP (2 ^ n - 1) 1) n).length := by
  have h6 := hW.1
  have hS := tr_bit n (by omega) hn
  obtain ⟨hq, h0⟩ := tr_one n (by omega) hn
  have hx : 1 < n := hn
  have hm : (ascL (unP (2 ^ n - 1) 1) n).length ≤ 5 := by
    have := asc_miss (show 0 < n by omega) h0
    omega
  have hs := unk_enu hS hx hq
  have hlen := unk_len hS hx hq
  have hg : ∀ k, k < n → ((fun _ => 0 : Nat → Int) k).natAbs ≤ 4455 := fun _ _ => Nat.zero_le _
  have hA : ∀ i j, i < (ascL (unP (2 ^ n - 1) 1) n).length → j < (ascL (unP (2 ^ n - 1) 1) n).length → aug W n (fun _ => 0) (unkL (2 ^ n - 2) 1 n) i j = lapM W n (fun i => (unkL (2 ^ n - 2) 1 n).getD i 0) i j := by
    intro i j hi hj
    unfold aug lapM
    rw [if_neg (by omega)]
  have hI := lap_mI hs hW.2.1 hA
  have hsy : ∀ i j, i < (ascL (unP (2 ^ n - 1) 1) n).length → j < (ascL (unP (2 ^ n - 1) 1) n).length → aug W n (fun _ => 0) (unkL (2 ^ n - 2) 1 n) i j = aug W n (fun _ => 0) (unkL (2 ^ n - 2) 1 n) j i := by
    intro i j hi hj
    rw [hA i j hi hj, hA j i hj hi]
    unfold lapM
    by_cases c : i = j
    · rw [if_pos c, if_pos c.symm, c]
    · rw [if_neg c, if_neg (fun z => c z.symm), hW.2.2.1 _ _ (hs.1 i hi) (hs.1 j hj)]
  have h1 : 1 ≤ (ascL (unP (2 ^ n - 1) 1) n).length := by have := asc_lt _ hx hq; omega
  have eD := mean_den (g := fun _ => 0) hx hS hq hm (W := W)
  refine ⟨?_, ?_⟩
  · unfold trM trK
    refine okA_of (by omega) (unkL_len hx).2 (fun a ha => aug_rowC hW (by rw [hlen]; exact hs) hg ha) (fun hz => ?_)
    rw [hlen] at hz ⊢
    exact (mI.some hm hI _ (Nat.le_refl _) (fun t ht => elm_piv hm hz _ (Nat.le_refl _) t ht)).1
  · rw [← eD]
    unfold trV trM trK
    rw [hlen]
    split
    · rename_i hz
      exact elm_den hm h1 hz
    · rename_i hz
      have hz' : ∃ t, t < (ascL (unP (2 ^ n - 1) 1) n).length ∧ elm (aug W n (fun _ => 0) (unkL (2 ^ n - 2) 1 n)) t t t = 0 := by
        refine Classical.byContradiction (fun z => hz (fun t ht e => z ⟨t, ht, e⟩))
      obtain ⟨t, t1, t2, t3⟩ := fst_zero _ hz'
      rw [elm_val hm t1 t3 (Nat.le_refl _) (Nat.le_refl _)] at t2
      have hnz := elm_piv (A := aug W n (fun _ => 0) (unkL (2 ^ n - 2) 1 n)) (m := t) (by omega) t3 t (Nat.le_refl _)
      have hIt := mI.some hm hI t (by omega) (fun u hu => hnz u hu)
      have hrow := ((hIt.diag (Nat.le_refl t) t1).2 t2).2
      exact (zr_all hm t1 hsy (by have := hIt.1; omega) hrow).symm
end

