/-! ===== the cost expression on both sides: terms and sums ===== -/
def pst (n r : Nat) (R R' : RD) (S S' : MS) : Prop := (gud n R' S' ∧ CdR (R'.rel r) S'.red ∧ (R'.rel r).wc = R.wc ∧ (∀ j, j < R.wc → R'.wt j = R.wt j) ∧ kps R R' S S') ∧ str S'.sv < r
def LevP (n r : Nat) (fc : MS → MS) : Prop := ∀ R S, gud n R S → CdR R S.red → R.wc + 1 ≤ 3 * n + r → (R.wc = 0 ∨ str (R.wt (R.wc - 1)) < r) → (∃ R', RC n true R = RC n false R' ∧ pst n r R R' S (fc S)) ∨ ∃ R', RC n true R = (false, R') ∧ Fl (false, R') (fc S)
theorem FacP.lev {n : Nat} {fc : MS → MS} (h : FacP n fc) : LevP n 3 fc := by
  intro R S g c hw _
  rcases h R S g c (by omega) with ⟨R', a1, a2, a3, a4, a5, a6⟩ | ⟨R', a⟩
  · exact Or.inl ⟨R', a1, ⟨a2, by rw [rel_3]; exact a3, by rw [rel_3]; exact a4, a5, a6⟩, Nat.lt_succ_of_le (str_2 _)⟩
  · exact Or.inr ⟨R', a⟩
theorem LevP.sum {n : Nat} {sm : MS → MS} (h : LevP n 1 sm) : SumP n sm := by
  intro R S g c hw hb
  rcases h R S g c (by omega) (by omega) with ⟨R', a1, ⟨a2, a3, a4, a5, a6⟩, a7⟩ | ⟨R', a⟩
  · refine Or.inl ⟨R', a1, a2, a3, a4, a5, a6, ?_⟩
    have n0 : ∀ z : Int, (z = 42 ∨ z = 43 ∨ z = 45 ∨ z = 47) → (sm S).sv ≠ z := by
      intro z hz e
      rw [e] at a7
      rcases hz with rfl | rfl | rfl | rfl <;> exact absurd a7 (by decide)
    exact ⟨n0 42 (by omega), n0 43 (by omega), n0 45 (by omega), n0 47 (by omega)⟩
  · exact Or.inr ⟨R', a⟩
/-- the operators of a level -/
def opL (r c1 c2 k1 k2 : Nat) : Prop := ((c1 < 128 ∧ isDg c1 = false ∧ isLt c1 = false) ∧ (c2 < 128 ∧ isDg c2 = false ∧ isLt c2 = false)) ∧ (str (c1 : Int) = r ∧ str (c2 : Int) = r ∧ ∀ z : Int, str z = r → z = c1 ∨ z = c2) ∧ oprI (c1 : Int) = cdv k1 0 ∧ oprI (c2 : Int) = cdv k2 0 ∧ c1 ≠ c2
theorem opL_2 : opL 2 42 47 3 4 := by
  refine ⟨⟨⟨by decide, by decide, by decide⟩, by decide, by decide, by decide⟩, ⟨by decide, by decide, fun z h => ?_⟩, by decide, by decide, by decide⟩
  unfold str at h
  (repeat' split at h) <;> omega
theorem opL_1 : opL 1 43 45 1 2 := by
  refine ⟨⟨⟨by decide, by decide, by decide⟩, by decide, by decide, by decide⟩, ⟨by decide, by decide, fun z h => ?_⟩, by decide, by decide, by decide⟩
  unfold str at h
  (repeat' split at h) <;> omega
theorem lev_loop {n r c1 c2 k1 k2 : Nat} {fc : MS → MS} (hr : 1 ≤ r) (ho : opL r c1 c2 k1 k2) (hf : LevP n (r + 1) fc) (R0 : RD) (S0 : MS) (hb : R0.wc = 0 ∨ str (R0.wt (R0.wc - 1)) < r) (hw : R0.wc + 1 ≤ 3 * n + r) (hn4 : n ≤ 4) (hr2 : r ≤ 2) :
    ∀ f R S, gud n R S → CdR (R.rel r) S.red → (R.rel r).wc = R0.wc → (∀ j, j < R0.wc → R.wt j = R0.wt j) → kps R0 R S0 S → str S.sv < r + 1 → S.siz < S.nxt + f →
      (∃ R', RC n false R = RC n false R' ∧ pst n r R0 R' S0 (tmL c1 c2 k1 k2 fc f S)) ∨ ∃ R', RC n false R = (false, R') ∧ Fl (false, R') (tmL c1 c2 k1 k2 fc f S)
  | 0, R, S, g, _, _, _, _, _, hz => by
    have := g.1.1.2.1
    omega
  | f + 1, R, S, g, c, w, t, k, hs, hz => by
    obtain ⟨h, hn, h10, he⟩ := g
    obtain ⟨t1, t2, t3, t4, t5⟩ := h.tk
    have hk := h.1.kp
    obtain ⟨⟨p1, p2⟩, ⟨o1, o2, o3⟩, o4, o5, o6⟩ := ho
    obtain ⟨m1, m2⟩ := ct_chr (S := S) h.1 p1.1 p1.2.1 p1.2.2
    obtain ⟨m3, m4⟩ := ct_chr (S := S) h.1 p2.1 p2.2.1 p2.2.2
    rw [tmL, if_pos h.2.1]
    by_cases hc : S.sv = c1 ∨ S.sv = c2
    rotate_left
    · left
      rw [if_neg hc]
      have sv2 : S.see.sv = S.sv := by
        unfold MS.sv
        rw [(h.1.see).2]
        rfl
      refine ⟨R, rfl, ⟨⟨h.see, hn, ?_, he⟩, c, w, t, k.1, k.2.1, ?_, ?_, k.2.2.2.2⟩, ?_⟩
      · show S.red 3 + 10 ≤ S.kp
        omega
      · have := k.2.2.1
        show S.red 3 + S0.nxt ≤ S0.red 3 + S.kp
        omega
      · have := k.2.2.2.1
        show S0.nxt ≤ S.kp
        omega
      · rw [sv2]
        have : str S.sv ≠ r := fun z => hc (o3 _ z)
        omega
    · rw [if_pos hc]
      have hkd : R.take.kd = S.sv := by
        rcases hc with q | q
        · rw [t1, q]; exact m1.mpr q
        · rw [t1, q]; exact m3.mpr q
      have hce : S.ct.2 = S.kp + 1 := by
        rcases hc with q | q
        · exact m2 q
        · exact m4 q
      have hstr : str R.take.kd = r := by
        rw [hkd]
        rcases hc with q | q
        · rw [q]; exact o1
        · rw [q]; exact o2
      have hop : ∀ q, q = (if S.sv = c1 then k1 else k2) → oprI R.take.kd = cdv q 0 := by
        intro q hq
        rw [hkd, hq]
        by_cases z : S.sv = c1
        · rw [if_pos z, z]; exact o4
        · rw [if_neg z, hc.resolve_left z]; exact o5
      have rt : R.take.rel r = (R.rel r).take := rel_take r _ _
      obtain ⟨P, hP⟩ : ∃ P, P = (R.take.rel r).push R.take.kd := ⟨_, rfl⟩
      have wc1 : (R.take.rel r).wc = R0.wc := by rw [rt]; exact w
      have ep : P = (((R.take.rel r).1.1, (R.take.rel r).1.2.1, ((R.take.rel r).hc, (R.take.rel r).cl, (R.take.rel r).wc + 1)), (R.take.rel r).T, (R.take.rel r).G, (R.take.rel r).cd, upZ (R.take.rel r).wt (R.take.rel r).wc R.take.kd) := by
        rw [hP]
        exact if_pos (by omega)
      have pT : smT R.take P := by
        rw [hP]
        exact (rel_T r).trans (push_T _)
      have pw : P.wc = R0.wc + 1 := by
        rw [ep]
        show (R.take.rel r).wc + 1 = _
        rw [wc1]
      have pt : ∀ j, P.wt j = upZ R.wt R0.wc R.take.kd j := by
        intro j
        rw [ep]
        show upZ (R.take.rel r).wt (R.take.rel r).wc R.take.kd j = _
        have e : (R.take.rel r).wt = R.wt := relF_wt _ _ _
        rw [wc1, e]
      have pc : CdR P S.red := by
        rw [ep, rt]
        exact c
      obtain ⟨S1, hS1⟩ : ∃ S1, S1 = S.s_nxt (S.kp + 1) := ⟨_, rfl⟩
      have g1 : gud n P S1 := by
        refine ⟨pT.syn ?_, by rw [hS1]; exact hn, by rw [hS1]; show S.red 3 + 10 ≤ S.kp + 1; omega, by rw [pT.1]; exact he⟩
        rw [hS1]
        refine ⟨⟨h.1.1, ?_, h.1.2.2⟩, h.2.1, ?_⟩
        · show S.kp + 1 ≤ S.siz
          omega
        · rw [hce] at t4
          exact t4
      have kS : kps R0 P S0 S1 := by
        refine ⟨⟨pT.1.trans k.1.1, pT.2.2.1.trans k.1.2.1, pT.2.2.2.trans k.1.2.2⟩, ?_, ?_, ?_, ?_⟩
        · rw [hS1]
          exact k.2.1
        · rw [hS1]
          have := k.2.2.1
          show S.red 3 + S0.nxt ≤ S0.red 3 + (S.kp + 1)
          omega
        · rw [hS1]
          have := k.2.2.2.1
          show S0.nxt ≤ S.kp + 1
          omega
        · rw [hS1]
          exact k.2.2.2.2
      rw [RC_op h.lt he (by omega), hstr, ← hP, ← hS1]
      rcases hf P S1 g1 (by rw [hS1]; exact pc) (by omega) (Or.inr (by rw [pw, pt, show R0.wc + 1 - 1 = R0.wc by omega, upZ_eq]; omega)) with ⟨R', r1, ⟨r2, r3, r4, r5, r6⟩, r7⟩ | ⟨R', r1, F⟩
      rotate_left
      · right
        refine ⟨R', r1, ?_⟩
        have ec : (fc S1).cod (if S.sv = c1 then k1 else k2) 0 = fc S1 := cod_n F.err _ _
        rw [ec]
        cases f with
        | zero => exact F
        | succ f =>
          rw [tmL, if_neg F.err]
          exact F
      · rw [r1]
        obtain ⟨q1, q2, q3, q4⟩ := r2
        -- the operator that waits, popped
        have Yt : (R'.rel (r + 1)).wt = R'.wt := relF_wt _ _ _
        have top : R'.wt R0.wc = R.take.kd := by rw [r5 R0.wc (by omega), pt, upZ_eq]
        have below : ∀ j, j < R0.wc → R'.wt j = R0.wt j := by
          intro j hj
          rw [r5 j (by omega), pt, upZ_ne _ _ (by omega)]
          exact t j hj
        have e1 : R'.rel r = ((R'.rel (r + 1)).pop1).rel r := by
          rw [rel_comp r R'.wc R' rfl]
          refine rel_top (by omega) ?_
          rw [r4, pw, Yt, show R0.wc + 1 - 1 = R0.wc by omega, top, hstr]
          exact Nat.le_refl _
        have clb : (R'.rel (r + 1)).cl < 600 := by
          have := r3.1
          have := q1.1.1
          have := q1.1.2.1
          omega
        have ey : (R'.rel (r + 1)).pop1 = ((R'.rel (r + 1)).sWc R0.wc).emit (oprI R.take.kd) := by
          unfold RD.pop1
          rw [r4, pw, Yt, show R0.wc + 1 - 1 = R0.wc by omega, top]
        have pwc : (R'.rel (r + 1)).pop1.wc = R0.wc := by
          have := RD.pop1_wc (R'.rel (r + 1))
          omega
        have pwt : (R'.rel (r + 1)).pop1.wt = R'.wt := by
          rw [ey]
          have e : ∀ (X : RD) (x : Int), (X.emit x).wt = X.wt := by
            intro X x
            unfold RD.emit
            split <;> rfl
          rw [e]
          exact Yt
        have e2 : R'.rel r = (R'.rel (r + 1)).pop1 := by
          rw [e1]
          refine rel_stop ?_
          rw [pwc, pwt]
          rcases hb with z | z
          · exact Or.inl z
          · by_cases z0 : R0.wc = 0
            · exact Or.inl z0
            · right
              rw [below _ (by omega)]
              exact z
        have fx : S1.nxt = S.kp + 1 ∧ S1.red = S.red ∧ S1.siz = S.siz := by
          rw [hS1]
          exact ⟨rfl, rfl, rfl⟩
        have cx : CdR (R'.rel r) ((fc S1).cod (if S.sv = c1 then k1 else k2) 0).red := by
          rw [e2, ey]
          exact emit_cod (R := (R'.rel (r + 1)).sWc R0.wc) r3 q1.2.1 clb (hop _ rfl)
        obtain ⟨S2, hS2⟩ : ∃ S2, S2 = (fc S1).cod (if S.sv = c1 then k1 else k2) 0 := ⟨_, rfl⟩
        have cod_u : S2 = (fc S1).s_red (upN (upN (upN (fc S1).red (56 + 2 * (fc S1).red 3) (if S.sv = c1 then k1 else k2)) (56 + 2 * (fc S1).red 3 + 1) 0) 3 ((fc S1).red 3 + 1)) := by
          rw [hS2]
          exact if_pos q1.2.1
        have z3 : S2.red 3 = (fc S1).red 3 + 1 := by
          rw [cod_u]
          exact upN_eq (upN (upN (fc S1).red (56 + 2 * (fc S1).red 3) (if S.sv = c1 then k1 else k2)) (56 + 2 * (fc S1).red 3 + 1) 0) 3 ((fc S1).red 3 + 1)
        have zn : S2.nxt = (fc S1).nxt ∧ S2.siz = (fc S1).siz ∧ S2.nst = (fc S1).nst ∧ S2.sv = (fc S1).sv := by
          rw [cod_u]
          exact ⟨rfl, rfl, rfl, rfl⟩
        have kk := kS.trans r6
        have k6 := r6.2.2
        rw [← hS2] at cx ⊢
        refine lev_loop hr ⟨⟨p1, p2⟩, ⟨o1, o2, o3⟩, o4, o5, o6⟩ hf R0 S0 hb hw hn4 hr2 f R' S2 ⟨by rw [hS2]; exact q1.cod _ _, by rw [zn.2.2.1]; exact q2, ?_, q4⟩ cx (by rw [e2]; exact pwc) below ⟨kk.1, ?_, ?_, ?_, ?_⟩ (by rw [zn.2.2.2]; exact r7) ?_
        · rw [z3, zn.1]
          have := k6.1
          rw [fx.1, fx.2.1] at this
          omega
        · intro j h1 h2
          rw [hS2, cod_out q1.2.1 h2 h1]
          exact kk.2.1 j h1 h2
        · rw [z3, zn.1]
          have := k6.1
          have := k.2.2.1
          rw [fx.1, fx.2.1] at *
          omega
        · rw [zn.1]
          exact kk.2.2.2.1
        · rw [zn.2.1]
          exact kk.2.2.2.2
        · rw [zn.2.1, zn.1]
          have := k6.2.1
          have := k6.2.2
          rw [fx.1] at *
          rw [fx.2.2] at *
          omega

