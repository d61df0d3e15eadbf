/-! ===== a statement on both sides ===== -/
def StR (R : RD) (S : MS) : Prop := Syn R S ∧ I1 S ∧ GR R.G S.red ∧ R.hc = S.hco ∧ (S.hco = 1 → CdR R S.red) ∧ endT R.T
section
variable {R : RD} {S : MS} {F : Nat}
theorem line_fin {X : MS} {x : Bool × RD} (h : StR R S) (hX : S.sts = X) (hx : (∃ R', x = (true, R') ∧ Syn R' X ∧ GR R'.G X.red ∧ R'.T = R.take.T ∧ (R'.hc = R.take.hc ∧ R'.cl = R.take.cl ∧ R'.cd = R.take.cd) ∧ ∀ k, k = 3 ∨ 56 ≤ k → X.red k = S.red k) ∨ Fl x X) (hh : X.hco = S.hco) : (∃ R', (if x.1 = false then (false, x.2) else rdSemi x.2) = (true, R') ∧ StR R' S.stm) ∨ ∃ R', (if x.1 = false then (false, x.2) else rdSemi x.2) = (false, R') ∧ Fl (false, R') S.stm := by
  obtain ⟨h1, h2, h3, h4, h5, h6⟩ := h
  have es : S.stm = X.wan 59 := by
    unfold MS.stm
    rw [hX]
  have iS : I1 S.sts := (sts_I1 h2 h1.2.1).1
  rw [hX] at iS
  rcases hx with ⟨R', e, s, g, t, ⟨c1, c2, c3⟩, o⟩ | f
  · rw [e, if_neg (by intro z; cases z)]
    rcases semi_sim s with ⟨a1, a2, a3⟩ | f
    · left
      refine ⟨R'.take, a1, ?_⟩
      rw [es]
      have hw : (X.wan 59).hco = S.hco := wan_red.2.1.trans hh
      refine ⟨a2, iS.wan 59, by rw [a3]; exact g, ?_, fun q => ?_, ?_⟩
      · rw [hw, ← h4]
        exact c1
      · rw [hw] at q
        obtain ⟨d1, d2⟩ := h5 q
        rw [a3]
        refine ⟨?_, fun j hj => ?_⟩
        · show R'.cl = X.red 3
          rw [c2, o 3 (Or.inl rfl)]
          exact d1
        · have hj' : j < R'.cl := hj
          show R'.cd j = _
          rw [c3, o _ (Or.inr (by omega)), o _ (Or.inr (by omega))]
          exact d2 j (by rw [c2] at hj'; exact hj')
      · have e2 : R'.take.T = R.T := t
        rw [e2]
        exact h6
    · right
      refine ⟨(rdSemi R').2, ?_, ?_⟩
      · rw [← f.1]
      · rw [es]
        exact ⟨rfl, f.2⟩
  · right
    refine ⟨x.2, by rw [if_pos f.1], ?_⟩
    rw [es, wan_n f.err]
    exact ⟨rfl, f.2⟩
theorem stm_sim (h : StR R S) : (∃ R', rdStm F R.take = (true, R') ∧ StR R' S.stm) ∨ ∃ R', rdStm F R.take = (false, R') ∧ Fl (false, R') S.stm := by
  have h' := h
  obtain ⟨h1, h2, h3, h4, h5, h6⟩ := h'
  obtain ⟨i2, j2⟩ := word_sim h1.see (i := 2) (by omega) (by omega)
  obtain ⟨i3, j3⟩ := word_sim h1.see (i := 3) (by omega) (by omega)
  obtain ⟨i4, j4⟩ := word_sim h1.see (i := 4) (by omega) (by omega)
  obtain ⟨i5, j5⟩ := word_sim h1.see (i := 5) (by omega) (by omega)
  have i2' : S.see.tkB 26 = true ↔ R.take.kd = 259 := i2
  have i3' : S.see.tkB 27 = true ↔ R.take.kd = 260 := i3
  have i4' : S.see.tkB 28 = true ↔ R.take.kd = 261 := i4
  have i5' : S.see.tkB 29 = true ↔ R.take.kd = 262 := i5
  unfold rdStm
  by_cases c2 : S.see.tkB 26 = true
  · obtain ⟨s, r⟩ := j2 c2
    rw [if_pos (i2'.mp c2)]
    have hr : (S.see.tkS 26).red = S.red := r
    have e := edge_sim (R := R.take) (S := S.see.tkS 26) s (by rw [hr]; exact h3)
    rw [hr] at e
    exact line_fin h (by unfold MS.sts; rw [if_pos c2]) e (el_hco.trans tkS_red.2.1)
  rw [if_neg (fun z => c2 (i2'.mpr z))]
  by_cases c3 : S.see.tkB 27 = true
  · obtain ⟨s, r⟩ := j3 c3
    rw [if_pos (i3'.mp c3)]
    have hr : (S.see.tkS 27).red = S.red := r
    have e := abs_sim (R := R.take) (S := S.see.tkS 27) s (by rw [hr]; exact h3)
    rw [hr] at e
    exact line_fin h (by unfold MS.sts; rw [if_neg c2, if_pos c3]) e (ab_hco.trans tkS_red.2.1)
  rw [if_neg (fun z => c3 (i3'.mpr z))]
  by_cases c4 : S.see.tkB 28 = true
  · obtain ⟨s, r⟩ := j4 c4
    rw [if_pos (i4'.mp c4)]
    have hr : (S.see.tkS 28).red = S.red := r
    have e := join_sim (R := R.take) (S := S.see.tkS 28) s (by rw [hr]; exact h3)
    rw [hr] at e
    exact line_fin h (by unfold MS.sts; rw [if_neg c2, if_neg c3, if_pos c4]) e (jn_hco.trans tkS_red.2.1)
  rw [if_neg (fun z => c4 (i4'.mpr z))]
  by_cases c5 : S.see.tkB 29 = true
  · have es : S.sts = if S.co1.err = 0 then lvS 4 S.co1 else S.co1 := by
      unfold MS.sts
      rw [if_neg c2, if_neg c3, if_neg c4, if_pos c5]
    have em : S.stm = (if S.co1.err = 0 then lvS 4 S.co1 else S.co1).wan 59 := by
      unfold MS.stm
      rw [es]
    have iS : I1 S.stm := by
      unfold MS.stm
      exact (sts_I1 h2 h1.2.1).1.wan 59
    rw [if_pos (i5'.mp c5)]
    have k := cost_sim h1 c5 h4 h2.2.2.2.1.1 h2.2.2.1 h2.2.2.2.1.2 h2.2.2.2.2 h6
    rw [← em] at k
    rcases k with ⟨R', k1, k2, k3, ⟨k4, k5, k6⟩, k7⟩ | ⟨R', k1, f⟩
    · left
      rw [k1, if_neg (by intro z; cases z)]
      have co := co_I1 h2 h1.2.1 c5
      have z0 : S.co1.err = 0 := by
        refine Classical.byContradiction (fun z => ?_)
        have : S.stm = S.co1 := by rw [em, if_neg z, wan_n z]
        rw [this] at k2
        exact z k2.2.1
      have hco1 : S.stm.hco = 1 := by
        have p := (co.1 z0)
        have l := (lv_ok 4 (Nat.le_refl 4) S.co1 p.1 p.2.1).1
        rw [em, if_pos z0]
        exact wan_red.2.1.trans (l.2.2.1.trans co.2.2.2.2.2.1)
      refine ⟨R'.sG (R'.G.sF F), rfl, k2.sG _, iS, ?_, ?_, fun _ => k3, ?_⟩
      · refine GR.same h3 ?_ ?_ ?_ ?_ ?_ ?_ ?_ ?_ ?_ ?_ ?_ ?_
        · show wfG (R'.G.sF F)
          rw [k5]
          exact wf_sF h3.1.2.1
        · show canB (R'.G.sF F)
          rw [k5]
          exact h3.1.2.2
        · show R'.G.n = R.G.n
          rw [k5]
        · show R'.G.e = R.G.e
          rw [k5]
        · show R'.G.L = R.G.L
          rw [k5]
        · show R'.G.H = R.G.H
          rw [k5]
        · show R'.G.W = R.G.W
          rw [k5]
        · exact k7 0 (by omega) (by omega)
        · exact k7 1 (by omega) (by omega)
        · show R'.G.a = S.stm.red 2
          rw [k5, k7 2 (by omega) (by omega)]
          exact h3.2.1.2.2
        · exact fun j _ q => k7 j (by omega) (by omega)
        · intro a b ha hb
          have n6 := h3.1.2.1.1.1
          show R'.G.B a = R'.G.B b ↔ _
          rw [k5, k7 (49 + a) (by omega) (by omega), k7 (49 + b) (by omega) (by omega)]
          exact h3.2.2.2 a b ha hb
      · show R'.hc = S.stm.hco
        rw [k6, hco1]
      · show endT R'.T
        rw [k4]
        exact h6
    · right
      rw [k1, if_pos rfl]
      exact ⟨R', rfl, f⟩
  · rw [if_neg (fun z => c5 (i5'.mpr z))]
    right
    have es : S.stm = S.see.fls (-2) S.kp := by
      have e : S.sts = S.see.fls (-2) S.kp := by
        unfold MS.sts
        rw [if_neg c2, if_neg c3, if_neg c4, if_neg c5]
      unfold MS.stm
      rw [e]
      refine wan_n ?_ 59
      rw [fls_0 (show S.see.err = 0 from h1.2.1)]
      show (-2 : Int) ≠ 0
      decide
    rw [es]
    exact ⟨R.take.fail (-2), rfl, Fl.mk' (by omega) (show S.see.err = 0 from h1.2.1) h1.tk.2.1⟩
end

