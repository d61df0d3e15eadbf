/-! ===== changes keep a graph well made: the rest ===== -/
section
variable {G : GT}
theorem wf_rmE {i : Nat} (h : wfG G) (hi : i < G.e) : wfG (G.rmE i) := by
  obtain ⟨⟨k1, k2, k3, k4, k5⟩, e1, e2, sy, e3, dg⟩ := h
  obtain ⟨i1, i2, -⟩ := e1 i hi
  have eW : ∀ x y, x < 6 → y < 6 → (G.rmE i).W (x * 6 + y) = if (x = G.L i ∧ y = G.H i) ∨ (x = G.H i ∧ y = G.L i) then 0 else G.W (x * 6 + y) := fun x y hx hy => pWt_at (by omega) (by omega) hx hy
  have eL : ∀ k, (G.rmE i).L k = shN G.L i (G.e - 1) k := fun k => rfl
  have eH : ∀ k, (G.rmE i).H k = shN G.H i (G.e - 1) k := fun k => rfl
  have ee : (G.rmE i).e = G.e - 1 := rfl
  have en : (G.rmE i).n = G.n := rfl
  have sh : ∀ (f : Nat → Nat) k, k < G.e - 1 → shN f i (G.e - 1) k = f (if i ≤ k then k + 1 else k) := by
    intro f k hk
    unfold shN
    by_cases c : i ≤ k
    · rw [if_pos ⟨c, hk⟩, if_pos c]
    · rw [if_neg (fun z => c z.1), if_neg c]
  refine ⟨⟨k1, by rw [ee]; omega, k3, k4, W36 (fun x y hx hy => ?_)⟩, fun j hj => ?_, fun j k hj hk hl hh => ?_, fun x y hx hy => ?_, fun x y hxy hy hn => ?_, fun x hx => ?_⟩
  · rw [eW x y hx hy]
    have := k5 (x * 6 + y) (by omega)
    split <;> omega
  · rw [ee] at hj
    rw [eL, eH, en, sh _ j hj, sh _ j hj]
    have hj2 : (if i ≤ j then j + 1 else j) < G.e := by split <;> omega
    have hj3 : (if i ≤ j then j + 1 else j) ≠ i := by split <;> omega
    generalize (if i ≤ j then j + 1 else j) = j' at hj2 hj3
    obtain ⟨g1, g2, g3⟩ := e1 j' hj2
    refine ⟨g1, g2, ?_⟩
    rw [eW _ _ (by omega) (by omega), if_neg]
    · exact g3
    · rintro (⟨q1, q2⟩ | ⟨q1, q2⟩)
      · exact hj3 (e2 j' i hj2 hi q1 q2)
      · omega
  · rw [ee] at hj hk
    rw [eL, eL, sh _ j hj, sh _ k hk] at hl
    rw [eH, eH, sh _ j hj, sh _ k hk] at hh
    have e := e2 _ _ (by split <;> omega) (by split <;> omega) hl hh
    revert e
    (repeat' split) <;> omega
  · rw [eW x y hx hy, eW y x hy hx, sy x y hx hy]
    by_cases c : (x = G.L i ∧ y = G.H i) ∨ (x = G.H i ∧ y = G.L i)
    · rw [if_pos c, if_pos (by omega)]
    · rw [if_neg c, if_neg (by omega)]
  · rw [eW x y (by omega) hy] at hn
    by_cases c : (x = G.L i ∧ y = G.H i) ∨ (x = G.H i ∧ y = G.L i)
    · rw [if_pos c] at hn
      omega
    · rw [if_neg c] at hn
      obtain ⟨k, g1, g2, g3⟩ := e3 x y hxy hy hn
      have hki : k ≠ i := by
        intro z
        rw [z] at g2 g3
        exact c (Or.inl ⟨g2.symm, g3.symm⟩)
      refine ⟨if k < i then k else k - 1, by rw [ee]; split <;> omega, ?_, ?_⟩
      · rw [eL, sh _ _ (by split <;> omega), show (if i ≤ (if k < i then k else k - 1) then (if k < i then k else k - 1) + 1 else (if k < i then k else k - 1)) = k by (repeat' split) <;> omega]
        exact g2
      · rw [eH, sh _ _ (by split <;> omega), show (if i ≤ (if k < i then k else k - 1) then (if k < i then k else k - 1) + 1 else (if k < i then k else k - 1)) = k by (repeat' split) <;> omega]
        exact g3
  · rw [eW x x hx hx, if_neg (by omega)]
    exact dg x hx
/-- the same but for the blocks -/
theorem wf_same {G' : GT} (h : wfG G) (ok : okG G') (hn : G'.n = G.n) (he : G'.e = G.e) (hL : G'.L = G.L) (hH : G'.H = G.H) (hW : G'.W = G.W) : wfG G' := by
  refine ⟨ok, ?_, ?_, ?_, ?_, ?_⟩
  · rw [he, hL, hH, hn, hW]
    exact h.2.1
  · rw [he, hL, hH]
    exact h.2.2.1
  · rw [hW]
    exact h.2.2.2.1
  · rw [hW, he, hL, hH]
    exact h.2.2.2.2.1
  · rw [hW]
    exact h.2.2.2.2.2
end

