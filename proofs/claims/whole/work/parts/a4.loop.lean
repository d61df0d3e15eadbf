/-! ===== the cost loop, without its fuel ===== -/
def RC (n : Nat) (w : Bool) (R : RD) : Bool × RD := rdC (R.T.2.2 - R.nx) n w R
section
variable {R : RD} {n : Nat}
theorem RC_go {X : RD} {m k : Nat} {w : Bool} (h : R.nx + 1 < R.T.2.2) (hm : m + 1 = R.T.2.2 - R.nx) (hX : smT R.take X) : rdC m k w X = RC k w X := by
  have en : R.take.nx = if R.nx < R.T.2.2 - 1 then R.nx + 1 else R.nx := rfl
  rw [if_pos (by omega)] at en
  have e1 : X.T = R.T := hX.1
  have e2 : X.nx = R.nx + 1 := hX.2.1.trans en
  unfold RC
  rw [e1, e2, show R.T.2.2 - (R.nx + 1) = m by omega]
theorem more_of (h : R.nx < R.T.2.2) (he : endT R.T) (hk : R.take.kd ≠ 256) : R.nx + 1 < R.T.2.2 := by
  refine Classical.byContradiction (fun z => hk ?_)
  have ek : R.take.kd = R.T.2.1.1 R.nx := rfl
  rw [ek, show R.nx = R.T.2.2 - 1 by omega]
  exact he
theorem RC_s (h : R.nx < R.T.2.2) {w : Bool} : ∃ m, m + 1 = R.T.2.2 - R.nx ∧ RC n w R = rdC (m + 1) n w R := ⟨R.T.2.2 - R.nx - 1, by omega, by
  unfold RC
  rw [show R.T.2.2 - R.nx - 1 + 1 = R.T.2.2 - R.nx by omega]⟩
theorem RC_open (h : R.nx < R.T.2.2) (he : endT R.T) (hk : R.take.kd = 40) (hn : n < 4) : RC n true R = RC (n + 1) true (R.take.push 40) := by
  obtain ⟨m, h1, h2⟩ := RC_s (n := n) (w := true) h
  have hm := more_of h he (by omega)
  rw [h2, rdC, if_pos rfl, if_pos hk, if_neg (by omega), hk]
  exact RC_go hm h1 (push_T _)
theorem RC_deep (h : R.nx < R.T.2.2) (hk : R.take.kd = 40) (hn : 4 ≤ n) : RC n true R = (false, R.take.fail (-5)) := by
  obtain ⟨m, h1, h2⟩ := RC_s (n := n) (w := true) h
  rw [h2, rdC, if_pos rfl, if_pos hk, if_pos hn]
theorem RC_fac (h : R.nx < R.T.2.2) (he : endT R.T) (hk : R.take.kd ≠ 40) (hf : (rdFac R.take).1 = true) : RC n true R = RC n false (rdFac R.take).2 := by
  obtain ⟨m, h1, h2⟩ := RC_s (n := n) (w := true) h
  have hm := more_of h he (by
    intro z
    unfold rdFac at hf
    rw [if_neg (by omega), if_neg (by omega), if_neg (by omega), if_neg (by omega)] at hf
    cases hf)
  rw [h2, rdC, if_pos rfl, if_neg hk, if_pos hf]
  exact RC_go hm h1 rdFac_T
theorem RC_facF (h : R.nx < R.T.2.2) (hk : R.take.kd ≠ 40) (hf : (rdFac R.take).1 = false) : RC n true R = (false, (rdFac R.take).2) := by
  obtain ⟨m, h1, h2⟩ := RC_s (n := n) (w := true) h
  rw [h2, rdC, if_pos rfl, if_neg hk, if_neg (by rw [hf]; intro z; cases z)]
theorem RC_op (h : R.nx < R.T.2.2) (he : endT R.T) (hk : 0 < str R.take.kd) : RC n false R = RC n true ((R.take.rel (str R.take.kd)).push R.take.kd) := by
  obtain ⟨m, h1, h2⟩ := RC_s (n := n) (w := false) h
  have hm := more_of h he (by
    intro z
    rw [z] at hk
    exact absurd hk (by decide))
  rw [h2, rdC, if_neg (by intro z; cases z), if_pos hk]
  exact RC_go hm h1 ((rel_T _).trans (push_T _))
theorem RC_close (h : R.nx < R.T.2.2) (he : endT R.T) (hk : R.take.kd = 41) (hn : 0 < n) : RC n false R = RC (n - 1) false ((R.take.rel 1).sWc ((R.take.rel 1).wc - 1)) := by
  obtain ⟨m, h1, h2⟩ := RC_s (n := n) (w := false) h
  have hm := more_of h he (by omega)
  rw [h2, rdC, if_neg (by intro z; cases z), if_neg (by rw [hk]; decide), if_pos ⟨hk, hn⟩]
  exact RC_go hm h1 ((rel_T 1).trans (sWc_T _))
theorem RC_semi (h : R.nx < R.T.2.2) (hk : R.take.kd = 59) : RC 0 false R = (true, R.take.rel 1) := by
  obtain ⟨m, h1, h2⟩ := RC_s (n := 0) (w := false) h
  rw [h2, rdC, if_neg (by intro z; cases z), if_neg (by rw [hk]; decide), if_neg (fun z => absurd z.2 (Nat.lt_irrefl 0)), if_pos ⟨hk, rfl⟩]
theorem RC_bad (h : R.nx < R.T.2.2) (h0 : str R.take.kd = 0) (h1 : ¬ (R.take.kd = 41 ∧ 0 < n)) (h2 : ¬ (R.take.kd = 59 ∧ n = 0)) : RC n false R = (false, R.take.fail (-2)) := by
  obtain ⟨m, -, e⟩ := RC_s (n := n) (w := false) h
  rw [e, rdC, if_neg (by intro z; cases z), if_neg (by omega), if_neg h1, if_neg h2]
/-- what is popped: only codes and the count of what waits change -/
theorem rel_take (s : Nat) : ∀ f (R : RD), RD.relF s f R.take = (RD.relF s f R).take
  | 0, R => rfl
  | f + 1, R => by
    rw [RD.relF, RD.relF]
    have e1 : R.take.wc = R.wc := rfl
    have e2 : R.take.wt = R.wt := rfl
    rw [e1, e2]
    by_cases c : 0 < R.wc ∧ s ≤ str (R.wt (R.wc - 1))
    · rw [if_pos c, if_pos c, ← rel_take s f]
      have e3 : R.take.pop1 = R.pop1.take := by
        unfold RD.pop1 RD.emit
        show (if R.cl < 600 then _ else _) = RD.take (if R.cl < 600 then _ else _)
        by_cases c2 : R.cl < 600
        · rw [if_pos c2, if_pos c2]
          rfl
        · rw [if_neg c2, if_neg c2]
          rfl
      rw [e3]
    · rw [if_neg c, if_neg c]
end

