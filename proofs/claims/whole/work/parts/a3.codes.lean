/-! ===== the cost expression on both sides: codes, fuel ===== -/
/-- a code of the reference, as the component writes it -/
def cdv (k w : Nat) : Int := if k = 0 then (w : Int) else if k = 5 then -1 - (w : Int) else -3 - (k : Int)
def CdR (R : RD) (f : Nat → Nat) : Prop := R.cl = f 3 ∧ ∀ j, j < R.cl → R.cd j = cdv (f (56 + 2 * j)) (f (56 + 2 * j + 1))
section
variable {R : RD} {S : MS}
theorem emit_cod (h : CdR R S.red) (h0 : S.err = 0) (hc : R.cl < 600) {k w : Nat} {x : Int} (hx : x = cdv k w) : CdR (R.emit x) (S.cod k w).red := by
  obtain ⟨h1, h2⟩ := h
  have e1 : R.emit x = ((R.1.1, R.1.2.1, (R.hc, R.cl + 1, R.wc)), R.T, R.G, upZ R.cd R.cl x, R.wt) := if_pos hc
  have e2 : (S.cod k w).red = upN (upN (upN S.red (56 + 2 * S.red 3) k) (56 + 2 * S.red 3 + 1) w) 3 (S.red 3 + 1) := by
    unfold MS.cod
    rw [if_pos h0]
    rfl
  rw [e1, e2]
  refine ⟨?_, fun j hj => ?_⟩
  · show R.cl + 1 = _
    rw [upN_eq, h1]
  · have hj' : j < R.cl + 1 := hj
    show upZ R.cd R.cl x j = _
    by_cases c : j = R.cl
    · subst c
      rw [upZ_eq, upN_ne _ _ (by omega), upN_ne _ _ (by omega), h1, upN_eq, upN_ne _ _ (by omega), upN_eq]
      exact hx
    · rw [upZ_ne _ _ c, upN_ne _ _ (by omega), upN_ne _ _ (by omega), upN_ne _ _ (by omega), upN_ne _ _ (by omega), upN_ne _ _ (by omega), upN_ne _ _ (by omega)]
      exact h2 j (by omega)
theorem cod_out (h0 : S.err = 0) {k w j : Nat} (h3 : j ≠ 3) (hj : j < 56) : (S.cod k w).red j = S.red j := by
  unfold MS.cod
  rw [if_pos h0]
  show upN (upN (upN S.red (56 + 2 * S.red 3) k) (56 + 2 * S.red 3 + 1) w) 3 (S.red 3 + 1) j = S.red j
  rw [upN_ne _ _ (by omega), upN_ne _ _ (by omega), upN_ne _ _ (by omega)]
theorem cod_n (h : S.err ≠ 0) (k w : Nat) : S.cod k w = S := if_neg h
theorem Syn.cod (h : Syn R S) (k w : Nat) : Syn R (S.cod k w) := by
  unfold MS.cod
  rw [if_pos h.2.1]
  exact h.red _
/-- what leaves the stream alone -/
def smT (R R' : RD) : Prop := R'.T = R.T ∧ R'.nx = R.nx ∧ R'.G = R.G ∧ R'.hc = R.hc
theorem smT.refl : smT R R := ⟨rfl, rfl, rfl, rfl⟩
theorem smT.trans {R1 R2 R3 : RD} (a : smT R1 R2) (b : smT R2 R3) : smT R1 R3 := ⟨b.1.trans a.1, b.2.1.trans a.2.1, b.2.2.1.trans a.2.2.1, b.2.2.2.trans a.2.2.2⟩
theorem smT.syn {R' : RD} (a : smT R R') (h : Syn R S) : Syn R' S := by
  obtain ⟨h1, h2, h3, h4, h5⟩ := h
  refine ⟨h1, h2, h3, ?_, ?_⟩
  · rw [a.2.1, a.1]
    exact h4
  · rw [a.2.1, a.1]
    exact h5
theorem emit_T (x : Int) : smT R (R.emit x) := by
  unfold RD.emit
  split
  · exact ⟨rfl, rfl, rfl, rfl⟩
  · exact smT.refl
theorem push_T (x : Int) : smT R (R.push x) := by
  unfold RD.push
  split
  · exact ⟨rfl, rfl, rfl, rfl⟩
  · exact smT.refl
theorem sWc_T (n : Nat) : smT R (R.sWc n) := ⟨rfl, rfl, rfl, rfl⟩
theorem relF_T (s : Nat) : ∀ f (R : RD), smT R (RD.relF s f R)
  | 0, R => smT.refl
  | f + 1, R => by
    rw [RD.relF]
    split
    · exact ((sWc_T _).trans (emit_T _)).trans (relF_T s f _)
    · exact smT.refl
theorem rel_T (s : Nat) : smT R (R.rel s) := relF_T s _ _
theorem fail_T (c : Int) : smT R (R.fail c) := ⟨rfl, rfl, rfl, rfl⟩
theorem rdFac_T : smT R (rdFac R).2 := by
  unfold rdFac
  (repeat' split) <;> first | exact fail_T _ | exact emit_T _
/-- how much fuel is left over does not matter -/
theorem rdC_fuel : ∀ f g n w (R : RD), R.nx < R.T.2.2 → R.T.2.2 ≤ f + R.nx → R.T.2.2 ≤ g + R.nx → endT R.T → rdC f n w R = rdC g n w R
  | 0, _, _, _, R, h, h1, _, _ => by omega
  | f + 1, 0, _, _, R, h, _, h1, _ => by omega
  | f + 1, g + 1, n, w, R, h, h1, h2, he => by
    have ek : R.take.kd = R.T.2.1.1 R.nx := rfl
    have en : R.take.nx = if R.nx < R.T.2.2 - 1 then R.nx + 1 else R.nx := rfl
    by_cases c : R.nx < R.T.2.2 - 1
    · rw [if_pos c] at en
      have ih : ∀ n w (X : RD), smT R.take X → rdC f n w X = rdC g n w X := by
        intro n w X hX
        have e1 : X.T = R.T := hX.1
        have e2 : X.nx = R.nx + 1 := hX.2.1.trans en
        exact rdC_fuel f g n w X (by rw [e1, e2]; omega) (by rw [e1, e2]; omega) (by rw [e1, e2]; omega) (by rw [e1]; exact he)
      rw [rdC, rdC]
      rw [ih _ _ _ (push_T _), ih _ _ _ rdFac_T, ih _ _ _ ((rel_T _).trans (push_T _)), ih _ _ _ ((rel_T 1).trans (sWc_T _))]
    · have hk : R.take.kd = 256 := by
        rw [ek, show R.nx = R.T.2.2 - 1 by omega]
        exact he
      have hf : (rdFac R.take).1 = false := by
        unfold rdFac
        rw [if_neg (by omega), if_neg (by omega), if_neg (by omega), if_neg (by omega)]
      have hs : str R.take.kd = 0 := by
        rw [hk]
        rfl
      rw [rdC, rdC, if_neg (show ¬ R.take.kd = 40 by omega), if_neg (show ¬ R.take.kd = 40 by omega), if_neg (show ¬ (rdFac R.take).1 = true by rw [hf]; intro z; cases z), if_neg (show ¬ (rdFac R.take).1 = true by rw [hf]; intro z; cases z), if_neg (show ¬ 0 < str R.take.kd by omega), if_neg (show ¬ 0 < str R.take.kd by omega), if_neg (show ¬ (R.take.kd = 41 ∧ 0 < n) by omega), if_neg (show ¬ (R.take.kd = 41 ∧ 0 < n) by omega), if_neg (show ¬ (R.take.kd = 59 ∧ n = 0) by omega)]
end

