/-! ===== the cost expression on both sides: brackets ===== -/
theorem relF_wt (s : Nat) : ∀ f (R : RD), (RD.relF s f R).wt = R.wt
  | 0, R => rfl
  | f + 1, R => by
    rw [RD.relF]
    split
    · rw [relF_wt s f]
      unfold RD.pop1 RD.emit
      split <;> rfl
    · rfl
section
variable {R : RD} {S : MS} {n : Nat}
theorem str_0 (h : Syn R S) (h2 : S.sv ≠ 42 ∧ S.sv ≠ 43 ∧ S.sv ≠ 45 ∧ S.sv ≠ 47) : str R.take.kd = 0 := by
  have t1 := h.tk.1
  have a := (ct_chr (S := S) h.1 (c := 42) (by omega) (by decide) (by decide)).1
  have b := (ct_chr (S := S) h.1 (c := 43) (by omega) (by decide) (by decide)).1
  have c := (ct_chr (S := S) h.1 (c := 45) (by omega) (by decide) (by decide)).1
  have d := (ct_chr (S := S) h.1 (c := 47) (by omega) (by decide) (by decide)).1
  have a' : ¬ R.take.kd = 42 := fun z => h2.1 (a.mp (t1.symm.trans z))
  have b' : ¬ R.take.kd = 43 := fun z => h2.2.1 (b.mp (t1.symm.trans z))
  have c' : ¬ R.take.kd = 45 := fun z => h2.2.2.1 (c.mp (t1.symm.trans z))
  have d' : ¬ R.take.kd = 47 := fun z => h2.2.2.2 (d.mp (t1.symm.trans z))
  unfold str
  rw [if_neg (by omega), if_neg (by omega)]
theorem Fl.nst {x : Bool × RD} (h : Fl x S) (k : Nat) : Fl x (S.s_nst k) := h
theorem FacP_of {sm : MS → MS} (h4 : n ≤ 4) (hs : n < 4 → SumP (n + 1) sm) : FacP n (fcS sm) := by
  intro R S g c hw
  by_cases h40 : S.sv = 40
  rotate_left
  · exact atom_sim g c h40
  obtain ⟨h, hn, hb, he⟩ := g
  obtain ⟨t1, t2, t3, t4, t5⟩ := h.tk
  have hlt := h.lt
  have ok := h.1
  have hk := ok.kp
  obtain ⟨q1, q2⟩ := ct_chr (S := S) ok (c := 40) (by omega) (by decide) (by decide)
  have k40 : R.take.kd = 40 := t1.trans (q1.mpr h40)
  have ce := q2 h40
  by_cases hn4 : n = 4
  · right
    have e : fcS sm S = S.see.fls (-5) S.kp := by
      unfold fcS
      rw [if_pos h.2.1, if_pos h40, if_pos (by omega)]
    rw [e]
    exact ⟨R.take.fail (-5), RC_deep hlt k40 (by omega), Fl.mk' (by omega) (show S.see.err = 0 from h.2.1) t2⟩
  · obtain ⟨X, hX⟩ : ∃ X, X = (S.see.s_nst (S.nst + 1)).s_nxt (S.kp + 1) := ⟨_, rfl⟩
    have e : fcS sm S = ((sm X).wan 41).s_nst S.nst := by
      unfold fcS
      rw [if_pos h.2.1, if_pos h40, if_neg (by omega), hX]
    have ep : R.take.push 40 = ((R.take.1.1, R.take.1.2.1, (R.take.hc, R.take.cl, R.take.wc + 1)), R.take.T, R.take.G, R.take.cd, upZ R.take.wt R.take.wc 40) := if_pos (by have : R.take.wc = R.wc := rfl; omega)
    have p1 : (R.take.push 40).wc = R.wc + 1 := by rw [ep]; rfl
    have p2 : ∀ j, (R.take.push 40).wt j = upZ R.wt R.wc 40 j := fun j => by rw [ep]; rfl
    have sx : Syn (R.take.push 40) X := by
      refine (push_T _).syn ?_
      rw [hX]
      refine ⟨⟨ok.1, ?_, ok.2.2⟩, h.2.1, ?_⟩
      · show S.kp + 1 ≤ S.siz
        omega
      · rw [ce] at t4
        exact t4
    have gx : gud (n + 1) (R.take.push 40) X := by
      refine ⟨sx, by rw [hX, ← hn]; rfl, ?_, ?_⟩
      · rw [hX]
        show S.red 3 + 10 ≤ S.kp + 1
        omega
      · rw [(push_T (R := R.take) 40).1]
        exact he
    have cx : CdR (R.take.push 40) X.red := by
      rw [hX, ep]
      exact c
    have kx : kps R (R.take.push 40) S X := ⟨⟨(push_T (R := R.take) 40).1, (push_T (R := R.take) 40).2.2.1, (push_T (R := R.take) 40).2.2.2⟩, fun k _ _ => by rw [hX]; rfl, by rw [hX]; show S.red 3 + S.nxt ≤ S.red 3 + (S.kp + 1); omega, by rw [hX]; show S.nxt ≤ S.kp + 1; omega, by rw [hX]; rfl⟩
    have ro := RC_open hlt he k40 (show n < 4 by omega)
    rw [e, ro]
    rcases hs (by omega) (R.take.push 40) X gx cx (by omega) (Or.inr (by rw [p1, p2, show R.wc + 1 - 1 = R.wc by omega, upZ_eq]; rfl)) with ⟨R', r1, r2, r3, r4, r5, r6, r7⟩ | ⟨R', r1, F⟩
    rotate_left
    · right
      refine ⟨R', r1, ?_⟩
      rw [wan_n F.err]
      exact F.nst _
    · rw [r1]
      obtain ⟨h', hn', hb', he'⟩ := r2
      obtain ⟨u1, u2, u3, u4, u5⟩ := h'.tk
      obtain ⟨v1, v2⟩ := ct_chr (S := sm X) h'.1 (c := 41) (by omega) (by decide) (by decide)
      have hk' := h'.1.kp
      by_cases c41 : (sm X).sv = ((41 : Nat) : Int)
      · left
        have k41 : R'.take.kd = 41 := u1.trans (v1.mpr c41)
        have ce' := v2 c41
        have rt : R'.take.rel 1 = (R'.rel 1).take := rel_take 1 _ _
        have ew : ((sm X).wan 41) = (sm X).s_nxt ((sm X).kp + 1) := by
          unfold MS.wan
          rw [if_pos h'.2.1, if_pos c41]
        rw [ew]
        refine ⟨_, RC_close h'.lt he' k41 (by omega), ⟨?_, ?_, ?_, ?_⟩, ?_, ?_, ?_, ?_⟩
        · refine ((rel_T 1).trans (sWc_T _)).syn ⟨⟨h'.1.1, ?_, h'.1.2.2⟩, h'.2.1, ?_⟩
          · show (sm X).kp + 1 ≤ (sm X).siz
            omega
          · rw [ce'] at u4
            exact u4
        · show S.nst = n + 1 - 1
          omega
        · show (sm X).red 3 + 10 ≤ (sm X).kp + 1
          omega
        · rw [((rel_T (R := R'.take) 1).trans (sWc_T _)).1]
          exact he'
        · rw [rt]
          exact r3
        · show (R'.take.rel 1).wc - 1 = R.wc
          rw [rt]
          have : (R'.rel 1).take.wc = (R'.rel 1).wc := rfl
          omega
        · intro j hj
          show (R'.take.rel 1).wt j = R.wt j
          rw [RD.rel, relF_wt]
          show R'.wt j = R.wt j
          rw [r5 j (by omega), p2, upZ_ne _ _ (by omega)]
        · refine (kx.trans r6).trans ⟨⟨((rel_T (R := R'.take) 1).trans (sWc_T _)).1, ((rel_T (R := R'.take) 1).trans (sWc_T _)).2.2.1, ((rel_T (R := R'.take) 1).trans (sWc_T _)).2.2.2⟩, fun k _ _ => rfl, by show (sm X).red 3 + (sm X).nxt ≤ (sm X).red 3 + ((sm X).kp + 1); omega, by show (sm X).nxt ≤ (sm X).kp + 1; omega, rfl⟩
      · right
        have ew : ((sm X).wan 41) = (sm X).see.fls (-2) (sm X).kp := by
          unfold MS.wan
          rw [if_pos h'.2.1, if_neg c41]
        rw [ew]
        have F : Fl (false, R'.take.fail (-2)) ((sm X).see.fls (-2) (sm X).kp) := Fl.mk' (by omega) (show (sm X).see.err = 0 from h'.2.1) u2
        exact ⟨_, RC_bad h'.lt (str_0 h' ⟨r7.1, r7.2.1, r7.2.2.1, r7.2.2.2⟩) (fun z => c41 (v1.mp (u1.symm.trans z.1))) (fun z => by omega), F.nst _⟩
end

