/-! ===== the cost expression on both sides: whole ===== -/
theorem lev_all {n r c1 c2 k1 k2 : Nat} {fc : MS → MS} (hr : 1 ≤ r) (hr2 : r ≤ 2) (hn4 : n ≤ 4) (ho : opL r c1 c2 k1 k2) (hf : LevP n (r + 1) fc) : LevP n r (fun S => tmL c1 c2 k1 k2 fc 601 (fc S)) := by
  intro R S g c hw hb
  rcases hf R S g c (by omega) (by omega) with ⟨R', r1, ⟨r2, r3, r4, r5, r6⟩, r7⟩ | ⟨R', r1, F⟩
  · have hb' : R.wc = 0 ∨ str (R'.wt (R.wc - 1)) < r := by
      rcases hb with z | z
      · exact Or.inl z
      · by_cases z0 : R.wc = 0
        · exact Or.inl z0
        · right
          rw [r5 _ (by omega)]
          exact z
    have e := rel_dn r4 hb'
    rw [r1]
    exact lev_loop hr ho hf R S hb hw hn4 hr2 601 R' (fc S) r2 (by rw [e]; exact r3) (by rw [e]; exact r4) r5 r6 r7 (by have := r2.1.1.1; omega)
  · right
    refine ⟨R', r1, ?_⟩
    show Fl (false, R') (tmL c1 c2 k1 k2 fc 601 (fc S))
    rw [tmL, if_neg F.err]
    exact F
theorem lv_sum : ∀ m, m ≤ 4 → SumP (4 - m) (lvS m)
  | 0, _ => (lev_all (by omega) (by omega) (by omega) opL_1 (lev_all (by omega) (by omega) (by omega) opL_2 (FacP_of (sm := id) (n := 4) (by omega) (fun z => by omega)).lev)).sum
  | m + 1, h => by
    have ih := lv_sum m (by omega)
    have hs : 4 - (m + 1) < 4 → SumP (4 - (m + 1) + 1) (lvS m) := fun _ => by
      rw [show 4 - (m + 1) + 1 = 4 - m by omega]
      exact ih
    exact (lev_all (by omega) (by omega) (by omega) opL_1 (lev_all (by omega) (by omega) (by omega) opL_2 (FacP_of (n := 4 - (m + 1)) (by omega) hs).lev)).sum

