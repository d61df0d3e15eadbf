/-! ===== the cost statement on both sides ===== -/
section
variable {R : RD} {S : MS}
theorem cost_sim (h : Syn R S) (hk : S.see.tkB 29 = true) (hh : R.hc = S.hco) (h01 : S.hco ≤ 1) (n0 : S.nst = 0) (h3 : S.hco = 0 → S.red 3 = 0) (h6 : 6 ≤ S.nxt) (he : endT R.T) :
    (∃ R', rdCost R.take = (true, R') ∧ Syn R' ((if S.co1.err = 0 then lvS 4 S.co1 else S.co1).wan 59) ∧ CdR R' ((if S.co1.err = 0 then lvS 4 S.co1 else S.co1).wan 59).red ∧ (R'.T = R.T ∧ R'.G = R.G ∧ R'.hc = 1) ∧ ∀ k, k < 56 → k ≠ 3 → ((if S.co1.err = 0 then lvS 4 S.co1 else S.co1).wan 59).red k = S.red k) ∨ ∃ R', rdCost R.take = (false, R') ∧ Fl (false, R') ((if S.co1.err = 0 then lvS 4 S.co1 else S.co1).wan 59) := by
  obtain ⟨w1, w2⟩ := word_sim h.see (i := 5) (by omega) (by omega)
  obtain ⟨s1, s2⟩ := w2 hk
  have st := h.tk.2.1
  have s1' : Syn R.take (S.see.tkS 29) := s1
  have s2' : (S.see.tkS 29).red = S.red := s2
  have hk0 := h.1.kp
  by_cases c : S.hco = 0
  rotate_left
  · right
    have e : S.co1 = ((S.see.tkS 29).fls (-2) S.kp).s_hco 1 := by
      unfold MS.co1
      rw [if_neg c]
    have F : Fl (false, R.take.fail (-2)) S.co1 := by
      rw [e]
      exact Fl.mk' (by omega) s1'.2.1 st
    rw [if_neg F.err, wan_n F.err]
    refine ⟨R.take.fail (-2), ?_, F⟩
    unfold rdCost
    rw [if_pos (show R.take.hc = 1 by show R.hc = 1; omega)]
  · have e : S.co1 = (S.see.tkS 29).s_hco 1 := by
      unfold MS.co1
      rw [if_pos c]
    have z0 : S.co1.err = 0 := by
      rw [e]
      exact s1'.2.1
    rw [if_pos z0]
    have nx : S.co1.nxt = S.kp + 4 := by
      rw [e]
      show (S.see.tkS 29).nxt = _
      rw [(tk_len hk).2, (h.1.see).2, len29.2.2.2.1]
    have r3 : S.co1.red = S.red := by
      rw [e]
      exact s2'
    have g : gud 0 R.take.beg S.co1 := by
      refine ⟨by rw [e]; exact s1', by rw [e]; show (S.see.tkS 29).nst = 0; rw [tkS_red.2.2.1]; exact n0, by rw [r3, nx, h3 c]; omega, he⟩
    have cd : CdR R.take.beg S.co1.red := by
      refine ⟨?_, fun j hj => absurd hj (Nat.not_lt_zero _)⟩
      rw [r3, h3 c]
      rfl
    have eq : rdCost R.take = RC 0 true R.take.beg := by
      unfold rdCost
      rw [if_neg (show ¬ R.take.hc = 1 by show ¬ R.hc = 1; omega)]
      have lt := g.1.lt
      exact rdC_fuel _ _ 0 true R.take.beg lt (Nat.le_add_right _ _) (by omega) he
    rw [eq]
    rcases lv_sum 4 (Nat.le_refl 4) R.take.beg S.co1 g cd (Nat.zero_le _) (Or.inl rfl) with ⟨R', r1, ⟨q1, q2, q3, q4⟩, q5, q6, q7, q8, q9⟩ | ⟨R', r1, F⟩
    rotate_left
    · right
      have r1' : RC 0 true R.take.beg = (false, R') := r1
      rw [wan_n F.err]
      exact ⟨R', r1', F⟩
    · have r1' : RC 0 true R.take.beg = RC 0 false R' := r1
      rw [r1']
      obtain ⟨u1, u2, u3, u4, u5⟩ := q1.tk
      obtain ⟨v1, v2⟩ := ct_chr (S := lvS 4 S.co1) q1.1 (c := 59) (by omega) (by decide) (by decide)
      have hk' := q1.1.kp
      by_cases c59 : (lvS 4 S.co1).sv = ((59 : Nat) : Int)
      · left
        have ew : (lvS 4 S.co1).wan 59 = (lvS 4 S.co1).s_nxt ((lvS 4 S.co1).kp + 1) := by
          unfold MS.wan
          rw [if_pos q1.2.1, if_pos c59]
        have rt : R'.take.rel 1 = (R'.rel 1).take := rel_take 1 _ _
        rw [ew]
        refine ⟨R'.take.rel 1, RC_semi q1.lt (u1.trans (v1.mpr c59)), ?_, ?_, ⟨?_, ?_, ?_⟩, ?_⟩
        · refine (rel_T 1).syn ⟨⟨q1.1.1, ?_, q1.1.2.2⟩, q1.2.1, ?_⟩
          · show (lvS 4 S.co1).kp + 1 ≤ (lvS 4 S.co1).siz
            have := v2 c59
            omega
          · rw [v2 c59] at u4
            exact u4
        · rw [rt]
          exact q5
        · rw [(rel_T (R := R'.take) 1).1]
          exact q8.1.1
        · rw [(rel_T (R := R'.take) 1).2.2.1]
          exact q8.1.2.1
        · rw [(rel_T (R := R'.take) 1).2.2.2]
          exact q8.1.2.2
        · intro k h1 h2
          show (lvS 4 S.co1).red k = S.red k
          rw [q8.2.1 k h1 h2, r3]
      · right
        have ew : (lvS 4 S.co1).wan 59 = (lvS 4 S.co1).see.fls (-2) (lvS 4 S.co1).kp := by
          unfold MS.wan
          rw [if_pos q1.2.1, if_neg c59]
        rw [ew]
        exact ⟨_, RC_bad q1.lt (str_0 q1 q9) (fun z => absurd z.2 (Nat.lt_irrefl 0)) (fun z => c59 (v1.mp (u1.symm.trans z.1))), Fl.mk' (by omega) (show (lvS 4 S.co1).see.err = 0 from q1.2.1) u2⟩
end

