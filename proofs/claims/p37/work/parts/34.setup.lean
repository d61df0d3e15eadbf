/-! ===== Reader: the whole text; its constructor ===== -/
theorem c_rdCost0 {v : Ev} {h : Hp} {top q : Nat} {R : RD} (c0 : R.hc = 1) : Cal v mX6_readCost 3 0 0 [.ref q] (rdH v h q R) top (pR (.int (nI 0)) (rdH v h q (R.fail (-2))) top) noX := by
  refine Cal.ofJ (by decide +kernel) rfl (Nat.le_of_ble_eq_true rfl) fun hz0 => ?_
  refine r_ls [some (.ref q), none, none, none] rfl ?_
  refine r_aload_n (pc := 0) (i := 0) (tX6_readCost.at 0 rfl) rfl rfl ?_
  refine r_get (pc := 1) (tX6_readCost.at 1 rfl) gf_X6_44 (rdH_0) rfl ?_
  refine r_eq rfl (st2 := [.int (nI R.hc)]) rfl ?_
  refine r_if_eqN (pc := 4) 14 (tX6_readCost.at 2 rfl) (by decide) (by omega) (fun z => by omega) (fun _ => ?_)
  refine r_aload_n (pc := 7) (i := 0) (tX6_readCost.at 3 rfl) rfl rfl ?_
  refine r_bipush (pc := 8) (w := zI (-2)) (tX6_readCost.at 4 rfl) (by decide) ?_
  refine r_callV (M' := mX6_fail) (pc := 10) (tX6_readCost.at 5 rfl) ml_X6_64 rfl mw_X6_fail ⟨by decide, by decide⟩ (rdH_0) rfl rfl (c_fail (c := -2)) rfl rfl (Nat.le_of_ble_eq_true rfl) (Nat.le_of_ble_eq_true rfl) (Nat.le_of_ble_eq_true rfl) ?_
  rintro _ _ _ ⟨rfl, rfl, rfl⟩
  refine r_zret (pc := 13) (tX6_readCost.at 6 rfl) rfl (rfl) (Nat.le_of_ble_eq_true rfl) (Nat.le_of_ble_eq_true rfl) ?_
  exact ⟨rfl, rfl, rfl⟩
theorem c_rdStm0 {v : Ev} {h : Hp} {top q : Nat} {R : RD} (ok : okR R) (hn : 1 ≤ R.G.n) (hk : nxk 4 R) (he : endT R.T) (h0 : R.hc = 1 ∨ R.kd ≠ 262) : Cal v mX6_readStatement 5 0 0 [.ref q] (rdH v h q R) top (pS v h q top R (rdStm top R)) noX := by
  have k1 : -128 ≤ R.kd ∧ R.kd ≤ 266 := ok.1.2.1
  refine Cal.ofJ (by decide +kernel) rfl (Nat.le_of_ble_eq_true rfl) fun hz0 => ?_
  refine r_ls [some (.ref q)] rfl ?_
  generalize hX : rdStm top R = X
  unfold rdStm at hX
  refine r_aload_n (pc := 0) (i := 0) (tX6_readStatement.at 0 rfl) rfl rfl ?_
  refine r_get (pc := 1) (tX6_readStatement.at 1 rfl) gf_X6_35 (rdH_0) rfl ?_
  refine r_eq rfl (st2 := [.int (zI R.kd)]) rfl ?_
  have ei : (zI R.kd).toInt = R.kd := zI_toInt ⟨by omega, by omega⟩
  by_cases h1 : R.kd = 259
  · rw [if_pos h1] at hX
    rw [h1]
    refine r_swIn (pc := 4) (off := 32) 36 (tX6_readStatement.at 2 rfl) (by decide) (by decide) (by decide) (by decide) ?_
    refine r_aload_n (pc := 36) (i := 0) (tX6_readStatement.at 3 rfl) rfl rfl ?_
    refine r_callV (M' := mX6_readEdge) (pc := 37) (tX6_readStatement.at 4 rfl) ml_X6_86 rfl mw_X6_readEdge ⟨by decide, by decide⟩ (rdH_0) rfl rfl (c_rdEdge ok hn) rfl rfl (Nat.le_of_ble_eq_true rfl) (Nat.le_of_ble_eq_true rfl) (Nat.le_of_ble_eq_true rfl) ?_
    rintro _ _ _ ⟨rfl, rfl, rfl⟩
    have fe := fr5_edge ok
    have oke := rdEdge_ok ok
    by_cases c : (rdEdge R).1 = false
    · rw [if_pos c] at hX
      rw [c]
      refine r_if_eqN (pc := 40) 54 (tX6_readStatement.at 5 rfl) (by decide) (by decide) (fun _ => ?_) (fun z => absurd rfl z)
      refine r_iconst (pc := 54) (w := nI 0) (tX6_readStatement.at 11 rfl) (by decide) ?_
      refine r_zret (pc := 55) (tX6_readStatement.at 12 rfl) rfl (rfl) (Nat.le_of_ble_eq_true rfl) (Nat.le_of_ble_eq_true rfl) ?_
      rw [← hX]
      exact ⟨rfl, Or.inr ⟨fun z => (by cases z), rfl, rfl⟩⟩
    · rw [if_neg c] at hX
      rw [bT c]
      refine r_if_eqN (pc := 40) 54 (tX6_readStatement.at 5 rfl) (by decide) (by decide) (fun z => absurd z (by decide)) (fun _ => ?_)
      have fs := fe.trans (fr5_semi oke)
      refine r_aload_n (pc := 43) (i := 0) (tX6_readStatement.at 6 rfl) rfl rfl ?_
      refine r_callV (M' := mX6_readSemicolon) (pc := 44) (tX6_readStatement.at 7 rfl) ml_X6_76 rfl mw_X6_readSemicolon ⟨by decide, by decide⟩ (rdH_0) rfl rfl (c_rdSemi oke) rfl rfl (Nat.le_of_ble_eq_true rfl) (Nat.le_of_ble_eq_true rfl) (Nat.le_of_ble_eq_true rfl) ?_
      rintro _ _ _ ⟨rfl, rfl, rfl⟩
      rw [hX] at fs ⊢
      rcases (show X.1 = true ∨ X.1 = false by cases X.1 <;> simp) with e | e
      · rw [e]
        refine r_if_eqN (pc := 47) 54 (tX6_readStatement.at 8 rfl) (by decide) (by decide) (fun z => absurd z (by decide)) (fun _ => ?_)
        refine r_iconst (pc := 50) (w := nI 1) (tX6_readStatement.at 9 rfl) (by decide) ?_
        refine r_goto (pc := 51) 55 (tX6_readStatement.at 10 rfl) (by decide) ?_
        refine r_zret (pc := 55) (tX6_readStatement.at 12 rfl) rfl (rfl) (Nat.le_of_ble_eq_true rfl) (Nat.le_of_ble_eq_true rfl) ?_
        exact ⟨by rw [e]; rfl, Or.inr ⟨fun _ => fs.2, rfl, rfl⟩⟩
      · rw [e]
        refine r_if_eqN (pc := 47) 54 (tX6_readStatement.at 8 rfl) (by decide) (by decide) (fun _ => ?_) (fun z => absurd rfl z)
        refine r_iconst (pc := 54) (w := nI 0) (tX6_readStatement.at 11 rfl) (by decide) ?_
        refine r_zret (pc := 55) (tX6_readStatement.at 12 rfl) rfl (rfl) (Nat.le_of_ble_eq_true rfl) (Nat.le_of_ble_eq_true rfl) ?_
        exact ⟨by rw [e]; rfl, Or.inr ⟨fun _ => fs.2, rfl, rfl⟩⟩
  rw [if_neg h1] at hX
  by_cases h2 : R.kd = 260
  · rw [if_pos h2] at hX
    rw [h2]
    refine r_swIn (pc := 4) (off := 52) 56 (tX6_readStatement.at 2 rfl) (by decide) (by decide) (by decide) (by decide) ?_
    refine r_aload_n (pc := 56) (i := 0) (tX6_readStatement.at 13 rfl) rfl rfl ?_
    refine r_callV (M' := mX6_readAbsorb) (pc := 57) (tX6_readStatement.at 14 rfl) ml_X6_89 rfl mw_X6_readAbsorb ⟨by decide, by decide⟩ (rdH_0) rfl rfl (c_rdAbs ok hn) rfl rfl (Nat.le_of_ble_eq_true rfl) (Nat.le_of_ble_eq_true rfl) (Nat.le_of_ble_eq_true rfl) ?_
    rintro _ _ _ ⟨rfl, rfl, rfl⟩
    have fe := fr5_abs ok
    have oke := rdAbs_ok ok hn
    by_cases c : (rdAbs R).1 = false
    · rw [if_pos c] at hX
      rw [c]
      refine r_if_eqN (pc := 60) 74 (tX6_readStatement.at 15 rfl) (by decide) (by decide) (fun _ => ?_) (fun z => absurd rfl z)
      refine r_iconst (pc := 74) (w := nI 0) (tX6_readStatement.at 21 rfl) (by decide) ?_
      refine r_zret (pc := 75) (tX6_readStatement.at 22 rfl) rfl (rfl) (Nat.le_of_ble_eq_true rfl) (Nat.le_of_ble_eq_true rfl) ?_
      rw [← hX]
      exact ⟨rfl, Or.inr ⟨fun z => (by cases z), rfl, rfl⟩⟩
    · rw [if_neg c] at hX
      rw [bT c]
      refine r_if_eqN (pc := 60) 74 (tX6_readStatement.at 15 rfl) (by decide) (by decide) (fun z => absurd z (by decide)) (fun _ => ?_)
      have fs := fe.trans (fr5_semi oke)
      refine r_aload_n (pc := 63) (i := 0) (tX6_readStatement.at 16 rfl) rfl rfl ?_
      refine r_callV (M' := mX6_readSemicolon) (pc := 64) (tX6_readStatement.at 17 rfl) ml_X6_76 rfl mw_X6_readSemicolon ⟨by decide, by decide⟩ (rdH_0) rfl rfl (c_rdSemi oke) rfl rfl (Nat.le_of_ble_eq_true rfl) (Nat.le_of_ble_eq_true rfl) (Nat.le_of_ble_eq_true rfl) ?_
      rintro _ _ _ ⟨rfl, rfl, rfl⟩
      rw [hX] at fs ⊢
      rcases (show X.1 = true ∨ X.1 = false by cases X.1 <;> simp) with e | e
      · rw [e]
        refine r_if_eqN (pc := 67) 74 (tX6_readStatement.at 18 rfl) (by decide) (by decide) (fun z => absurd z (by decide)) (fun _ => ?_)
        refine r_iconst (pc := 70) (w := nI 1) (tX6_readStatement.at 19 rfl) (by decide) ?_
        refine r_goto (pc := 71) 75 (tX6_readStatement.at 20 rfl) (by decide) ?_
        refine r_zret (pc := 75) (tX6_readStatement.at 22 rfl) rfl (rfl) (Nat.le_of_ble_eq_true rfl) (Nat.le_of_ble_eq_true rfl) ?_
        exact ⟨by rw [e]; rfl, Or.inr ⟨fun _ => fs.2, rfl, rfl⟩⟩
      · rw [e]
        refine r_if_eqN (pc := 67) 74 (tX6_readStatement.at 18 rfl) (by decide) (by decide) (fun _ => ?_) (fun z => absurd rfl z)
        refine r_iconst (pc := 74) (w := nI 0) (tX6_readStatement.at 21 rfl) (by decide) ?_
        refine r_zret (pc := 75) (tX6_readStatement.at 22 rfl) rfl (rfl) (Nat.le_of_ble_eq_true rfl) (Nat.le_of_ble_eq_true rfl) ?_
        exact ⟨by rw [e]; rfl, Or.inr ⟨fun _ => fs.2, rfl, rfl⟩⟩
  rw [if_neg h2] at hX
  by_cases h3 : R.kd = 261
  · rw [if_pos h3] at hX
    rw [h3]
    refine r_swIn (pc := 4) (off := 72) 76 (tX6_readStatement.at 2 rfl) (by decide) (by decide) (by decide) (by decide) ?_
    refine r_aload_n (pc := 76) (i := 0) (tX6_readStatement.at 23 rfl) rfl rfl ?_
    refine r_callV (M' := mX6_readJoin) (pc := 77) (tX6_readStatement.at 24 rfl) ml_X6_92 rfl mw_X6_readJoin ⟨by decide, by decide⟩ (rdH_0) rfl rfl (c_rdJoin ok hn) rfl rfl (Nat.le_of_ble_eq_true rfl) (Nat.le_of_ble_eq_true rfl) (Nat.le_of_ble_eq_true rfl) ?_
    rintro _ _ _ ⟨rfl, rfl, rfl⟩
    have fe := fr5_join ok
    have oke := rdJoin_ok ok hn
    by_cases c : (rdJoin R).1 = false
    · rw [if_pos c] at hX
      rw [c]
      refine r_if_eqN (pc := 80) 94 (tX6_readStatement.at 25 rfl) (by decide) (by decide) (fun _ => ?_) (fun z => absurd rfl z)
      refine r_iconst (pc := 94) (w := nI 0) (tX6_readStatement.at 31 rfl) (by decide) ?_
      refine r_zret (pc := 95) (tX6_readStatement.at 32 rfl) rfl (rfl) (Nat.le_of_ble_eq_true rfl) (Nat.le_of_ble_eq_true rfl) ?_
      rw [← hX]
      exact ⟨rfl, Or.inr ⟨fun z => (by cases z), rfl, rfl⟩⟩
    · rw [if_neg c] at hX
      rw [bT c]
      refine r_if_eqN (pc := 80) 94 (tX6_readStatement.at 25 rfl) (by decide) (by decide) (fun z => absurd z (by decide)) (fun _ => ?_)
      have fs := fe.trans (fr5_semi oke)
      refine r_aload_n (pc := 83) (i := 0) (tX6_readStatement.at 26 rfl) rfl rfl ?_
      refine r_callV (M' := mX6_readSemicolon) (pc := 84) (tX6_readStatement.at 27 rfl) ml_X6_76 rfl mw_X6_readSemicolon ⟨by decide, by decide⟩ (rdH_0) rfl rfl (c_rdSemi oke) rfl rfl (Nat.le_of_ble_eq_true rfl) (Nat.le_of_ble_eq_true rfl) (Nat.le_of_ble_eq_true rfl) ?_
      rintro _ _ _ ⟨rfl, rfl, rfl⟩
      rw [hX] at fs ⊢
      rcases (show X.1 = true ∨ X.1 = false by cases X.1 <;> simp) with e | e
      · rw [e]
        refine r_if_eqN (pc := 87) 94 (tX6_readStatement.at 28 rfl) (by decide) (by decide) (fun z => absurd z (by decide)) (fun _ => ?_)
        refine r_iconst (pc := 90) (w := nI 1) (tX6_readStatement.at 29 rfl) (by decide) ?_
        refine r_goto (pc := 91) 95 (tX6_readStatement.at 30 rfl) (by decide) ?_
        refine r_zret (pc := 95) (tX6_readStatement.at 32 rfl) rfl (rfl) (Nat.le_of_ble_eq_true rfl) (Nat.le_of_ble_eq_true rfl) ?_
        exact ⟨by rw [e]; rfl, Or.inr ⟨fun _ => fs.2, rfl, rfl⟩⟩
      · rw [e]
        refine r_if_eqN (pc := 87) 94 (tX6_readStatement.at 28 rfl) (by decide) (by decide) (fun _ => ?_) (fun z => absurd rfl z)
        refine r_iconst (pc := 94) (w := nI 0) (tX6_readStatement.at 31 rfl) (by decide) ?_
        refine r_zret (pc := 95) (tX6_readStatement.at 32 rfl) rfl (rfl) (Nat.le_of_ble_eq_true rfl) (Nat.le_of_ble_eq_true rfl) ?_
        exact ⟨by rw [e]; rfl, Or.inr ⟨fun _ => fs.2, rfl, rfl⟩⟩
  rw [if_neg h3] at hX
  by_cases h4 : R.kd = 262
  · rw [if_pos h4] at hX
    rw [h4]
    refine r_swIn (pc := 4) (off := 92) 96 (tX6_readStatement.at 2 rfl) (by decide) (by decide) (by decide) (by decide) ?_
    refine r_aload_n (pc := 96) (i := 0) (tX6_readStatement.at 33 rfl) rfl rfl ?_
    refine r_callV (M' := mX6_readCost) (pc := 97) (tX6_readStatement.at 34 rfl) ml_X6_95 rfl mw_X6_readCost ⟨by decide, by decide⟩ rdH_0 rfl rfl (c_rdCost0 (h0.resolve_right (by simp [h4]))) rfl rfl (Nat.le_of_ble_eq_true rfl) (Nat.le_of_ble_eq_true rfl) (Nat.le_of_ble_eq_true rfl) ?_
    rintro _ _ _ ⟨rfl, rfl, rfl⟩
    have e : rdCost R = (false, R.fail (-2)) := by rw [rdCost, if_pos (h0.resolve_right (by simp [h4]))]
    rw [e, if_pos rfl] at hX
    refine r_zret (pc := 100) (tX6_readStatement.at 35 rfl) rfl (rfl) (Nat.le_of_ble_eq_true rfl) (Nat.le_of_ble_eq_true rfl) ?_
    rw [← hX]
    exact ⟨rfl, Or.inr ⟨fun z => (by cases z), rfl, rfl⟩⟩
  rw [if_neg h4] at hX
  refine r_swOut (pc := 4) 101 (tX6_readStatement.at 2 rfl) (by rw [ei]; omega) (by decide) ?_
  refine r_aload_n (pc := 101) (i := 0) (tX6_readStatement.at 36 rfl) rfl rfl ?_
  refine r_bipush (pc := 102) (w := zI (-2)) (tX6_readStatement.at 37 rfl) (by decide) ?_
  refine r_callV (M' := mX6_fail) (pc := 104) (tX6_readStatement.at 38 rfl) ml_X6_64 rfl mw_X6_fail ⟨by decide, by decide⟩ (rdH_0) rfl rfl (c_fail (c := -2)) rfl rfl (Nat.le_of_ble_eq_true rfl) (Nat.le_of_ble_eq_true rfl) (Nat.le_of_ble_eq_true rfl) ?_
  rintro _ _ _ ⟨rfl, rfl, rfl⟩
  refine r_zret (pc := 107) (tX6_readStatement.at 39 rfl) rfl (rfl) (Nat.le_of_ble_eq_true rfl) (Nat.le_of_ble_eq_true rfl) ?_
  rw [← hX]
  exact ⟨rfl, Or.inr ⟨fun z => (by cases z), rfl, rfl⟩⟩
def RD.ini (R : RD) : RD := (((R.err, R.eat, 0), R.1.2.1, (0, R.cl, R.wc)), R.2)
def rdL (F : Nat) : Nat → RD → Bool × RD
  | 0, R => (false, R.fail (-2))
  | f + 1, R => if R.take.kd = 256 then (true, R.take) else if (rdStm F R.take).1 = false then (false, (rdStm F R.take).2) else rdL F f (rdStm F R.take).2
def RD.clr (v : Ev) (R : RD) : RD := R.sG (R.G.cl0 v R.vl 6)
def rdSetup (v : Ev) (F : Nat) (R : RD) : Bool × RD :=
  if R.ini.take.kd ≠ 258 then (false, R.ini.take.fail (-2))
  else if (rdNum 2 6 R.ini.take).1 = false then (false, (rdNum 2 6 R.ini.take).2)
  else if (rdSemi ((rdNum 2 6 R.ini.take).2.clr v)).1 = false then (false, (rdSemi ((rdNum 2 6 R.ini.take).2.clr v)).2)
  else rdL F R.T.2.2 (rdSemi ((rdNum 2 6 R.ini.take).2.clr v)).2
theorem okG.cl0 {v : Ev} {G : GT} {n : Nat} (hn : n ≤ 6) : okG (G.cl0 v n 6) := by
  refine ⟨hn, Nat.zero_le _, ?_, fun k hk => ?_, fun k hk => ?_⟩
  · show 0 < 64
    omega
  · show idB G.B 6 k ≤ 6
    unfold idB
    rw [if_pos hk]
    omega
  · show filF G.W 36 0 k ≤ 9
    unfold filF
    rw [if_pos hk]
    omega
/-- behind the whole text -/
def pU (v : Ev) (h : Hp) (q top : Nat) (x : Bool × RD) : Option Value → Hp → Nat → Prop := fun r h' top' =>
  r = some (.int (nI (Bool.toNat x.1))) ∧ okR x.2 ∧ ((h' = rdH v h q x.2 ∧ top' = top ∧ (x.1 = true → x.2.hc = 0)) ∨ ∃ n f, h' = rdH v (hp h top (aI v n f)) q x.2 ∧ top' = top + 1 ∧ (x.1 = true → x.2.hc = 1 ∧ n = x.2.cl ∧ f = cpF (sF x.2.cd) (fun _ => 0) x.2.cl))
theorem c_setup {v : Ev} {h : Hp} {top q : Nat} {R : RD} (ok : okR R.ini) (he : endT R.T) (hq : q + 14 ≤ top) : Cal v mX6_readSetup 6 1 600 [.ref q] (rdH v h q R) top (pU v h q top (rdSetup v top R)) noX := by
  have hct1 : 1 ≤ R.T.2.2 := ok.2.1.1
  have hct2 : R.T.2.2 ≤ 601 := ok.2.1.2.1
  refine Cal.ofJ (by decide +kernel) rfl (Nat.le_of_ble_eq_true rfl) fun hz0 => ?_
  refine r_ls [some (.ref q), none] rfl ?_
  generalize hX : rdSetup v top R = X
  unfold rdSetup at hX
  refine r_aload_n (pc := 0) (i := 0) (tX6_readSetup.at 0 rfl) rfl rfl ?_
  refine r_iconst (pc := 1) (w := nI 0) (tX6_readSetup.at 1 rfl) (by decide) ?_
  refine r_put (pc := 2) (tX6_readSetup.at 2 rfl) pf_X6_32 (rdH_0) (Nat.le_of_ble_eq_true rfl) (rfl) (rfl) ?_
  refine r_eq (h2 := rdH v h q (((R.err, R.eat, 0), R.1.2.1, R.1.2.2), R.2)) (rdH_p0 (R := R) ((R.err, R.eat, 0), R.1.2.1, R.1.2.2)) rfl ?_
  refine r_aload_n (pc := 5) (i := 0) (tX6_readSetup.at 3 rfl) rfl rfl ?_
  refine r_iconst (pc := 6) (w := nI 0) (tX6_readSetup.at 4 rfl) (by decide) ?_
  refine r_put (pc := 7) (tX6_readSetup.at 5 rfl) pf_X6_44 (rdH_0) (Nat.le_of_ble_eq_true rfl) (rfl) (rfl) ?_
  refine r_eq (h2 := rdH v h q R.ini) (rdH_p0 (R := (((R.err, R.eat, 0), R.1.2.1, R.1.2.2), R.2)) ((R.err, R.eat, 0), R.1.2.1, (0, R.cl, R.wc))) rfl ?_
  have ok1 := RD.take_ok ok
  have k1 : -128 ≤ R.ini.take.kd ∧ R.ini.take.kd ≤ 266 := ok1.1.2.1
  refine r_aload_n (pc := 10) (i := 0) (tX6_readSetup.at 6 rfl) rfl rfl ?_
  refine r_callV (M' := mX6_takeToken) (pc := 11) (tX6_readSetup.at 7 rfl) ml_X6_61 rfl mw_X6_takeToken ⟨by decide, by decide⟩ (rdH_0) rfl rfl (c_take ok) rfl rfl (Nat.le_of_ble_eq_true rfl) (Nat.le_of_ble_eq_true rfl) (Nat.le_of_ble_eq_true rfl) ?_
  rintro _ _ _ ⟨rfl, rfl, rfl⟩
  refine r_aload_n (pc := 14) (i := 0) (tX6_readSetup.at 8 rfl) rfl rfl ?_
  refine r_get (pc := 15) (tX6_readSetup.at 9 rfl) gf_X6_35 (rdH_0) rfl ?_
  refine r_sipush (pc := 18) (w := zI 258) (tX6_readSetup.at 10 rfl) (by decide) ?_
  refine r_eq rfl (st2 := [.int (zI 258), .int (zI R.ini.take.kd)]) rfl ?_
  have n0 : nxk 0 R.ini := Or.inl (Nat.zero_le _)
  have n1 : nxk 1 R.ini.take := nxk.take n0 ok.1.1
  refine r_icmp_eqZ (pc := 21) 31 (tX6_readSetup.at 11 rfl) (by decide) ⟨by omega, by omega⟩ ⟨by omega, by omega⟩ (fun c1 => ?_) (fun c1 => ?_)
  · rw [if_neg (by omega)] at hX
    refine r_aload_n (pc := 31) (i := 0) (tX6_readSetup.at 16 rfl) rfl rfl ?_
    refine r_iconst (pc := 32) (w := nI 2) (tX6_readSetup.at 17 rfl) (by decide) ?_
    refine r_bipush (pc := 33) (w := nI 6) (tX6_readSetup.at 18 rfl) (by decide) ?_
    refine r_callV (M' := mX6_readNumber) (pc := 35) (tX6_readSetup.at 19 rfl) ml_X6_68 rfl mw_X6_readNumber ⟨by decide, by decide⟩ (rdH_0) rfl rfl (c_rdNum ok1 (by omega) (by omega)) rfl rfl (Nat.le_of_ble_eq_true rfl) (Nat.le_of_ble_eq_true rfl) (Nat.le_of_ble_eq_true rfl) ?_
    rintro _ _ _ ⟨rfl, rfl, rfl⟩
    by_cases c2 : (rdNum 2 6 R.ini.take).1 = false
    · rw [if_pos c2] at hX
      rw [c2]
      refine r_if_neN (pc := 38) 43 (tX6_readSetup.at 20 rfl) (by decide) (by decide) (fun z => absurd rfl z) (fun _ => ?_)
      refine r_iconst (pc := 41) (w := nI 0) (tX6_readSetup.at 21 rfl) (by decide) ?_
      refine r_zret (pc := 42) (tX6_readSetup.at 22 rfl) rfl (rfl) (Nat.le_of_ble_eq_true rfl) (Nat.le_of_ble_eq_true rfl) ?_
      rw [← hX]
      exact ⟨rfl, rdNum_ok ok1, Or.inl ⟨rfl, rfl, fun z => (by cases z)⟩⟩
    rw [if_neg c2] at hX
    rw [bT c2]
    obtain ⟨g1, g2, g3⟩ := rdNum_t (bT c2)
    refine r_if_neN (pc := 38) 43 (tX6_readSetup.at 20 rfl) (by decide) (by decide) (fun _ => ?_) (fun z => absurd z (by decide))
    rw [g1] at hX ⊢
    have ok2 : okR R.ini.take.take := RD.take_ok ok1
    have n2 : nxk 2 R.ini.take.take := nxk.take n1 ok1.1.1
    have hc2 : R.ini.take.take.hc = 0 := rfl
    have hT2 : R.ini.take.take.T = R.T := rfl
    generalize R.ini.take.take = R2 at *
    have k := c_clear (v := v) (h := rdH v h q R2) (top := top) (g := q + 6) (G := R2.G) (n := R2.vl) g3
    rw [rdH_self, rdH_pG] at k
    have ok3 : okR (R2.clr v) := RD.sG_ok ok2 (okG.cl0 g3)
    refine r_aload_n (pc := 43) (i := 0) (tX6_readSetup.at 23 rfl) rfl rfl ?_
    refine r_get (pc := 44) (tX6_readSetup.at 24 rfl) gf_X6_21 (rdH_0) rfl ?_
    refine r_aload_n (pc := 47) (i := 0) (tX6_readSetup.at 25 rfl) rfl rfl ?_
    refine r_get (pc := 48) (tX6_readSetup.at 26 rfl) gf_X6_41 (rdH_0) rfl ?_
    refine r_callV (M' := mX3_clear) (pc := 51) (tX6_readSetup.at 27 rfl) ml_X6_72 rfl mw_X3_clear ⟨by decide, by decide⟩ (rdH_G.1) rfl rfl (k) rfl rfl (Nat.le_of_ble_eq_true rfl) (Nat.le_of_ble_eq_true rfl) (Nat.le_of_ble_eq_true rfl) ?_
    rintro _ _ _ ⟨rfl, rfl, rfl⟩
    refine r_eq (h2 := rdH v h q (R2.clr v)) rfl rfl ?_
    refine r_aload_n (pc := 54) (i := 0) (tX6_readSetup.at 28 rfl) rfl rfl ?_
    refine r_callV (M' := mX6_readSemicolon) (pc := 55) (tX6_readSetup.at 29 rfl) ml_X6_76 rfl mw_X6_readSemicolon ⟨by decide, by decide⟩ (rdH_0) rfl rfl (c_rdSemi ok3) rfl rfl (Nat.le_of_ble_eq_true rfl) (Nat.le_of_ble_eq_true rfl) (Nat.le_of_ble_eq_true rfl) ?_
    rintro _ _ _ ⟨rfl, rfl, rfl⟩
    by_cases c3 : (rdSemi (R2.clr v)).1 = false
    · rw [if_pos c3] at hX
      rw [c3]
      refine r_if_neN (pc := 58) 63 (tX6_readSetup.at 30 rfl) (by decide) (by decide) (fun z => absurd rfl z) (fun _ => ?_)
      refine r_iconst (pc := 61) (w := nI 0) (tX6_readSetup.at 31 rfl) (by decide) ?_
      refine r_zret (pc := 62) (tX6_readSetup.at 32 rfl) rfl (rfl) (Nat.le_of_ble_eq_true rfl) (Nat.le_of_ble_eq_true rfl) ?_
      rw [← hX]
      exact ⟨rfl, rdSemi_ok ok3, Or.inl ⟨rfl, rfl, fun z => (by cases z)⟩⟩
    rw [if_neg c3] at hX
    rw [bT c3]
    refine r_if_neN (pc := 58) 63 (tX6_readSetup.at 30 rfl) (by decide) (by decide) (fun _ => ?_) (fun z => absurd z (by decide))
    have ok4 := rdSemi_ok ok3
    have f4 := fr5_semi ok3
    have n4 : nxk 3 (rdSemi (R2.clr v)).2 := by
      have e : (rdSemi (R2.clr v)).2 = (R2.clr v).take := by
        have := bT c3
        unfold rdSemi at this ⊢
        split
        · rfl
        · next c => rw [if_neg c] at this; cases this
      rw [e]
      exact nxk.take n2 ok2.1.1
    have hn4 : 2 ≤ (rdSemi (R2.clr v)).2.G.n := by
      rw [f4.1.2.1]
      exact g2
    have hT4 : (rdSemi (R2.clr v)).2.T = R.T := f4.1.1.trans hT2
    have hc4 : (rdSemi (R2.clr v)).2.hc = 0 := f4.2.1.trans hc2
    generalize (rdSemi (R2.clr v)).2 = R4 at *
    refine r_iconst (pc := 63) (w := nI 0) (tX6_readSetup.at 33 rfl) (by decide) ?_
    refine r_istore_n (pc := 64) (i := 1) (tX6_readSetup.at 34 rfl) rfl (by decide) ?_
    -- the statements, once a row of codes has been made
    have keyB : ∀ f j (R5 : RD), j + f = R.T.2.2 → okR R5 → 2 ≤ R5.G.n → R5.T = R.T → nxk 3 R5 → R5.hc = 1 → ∀ cl cd, R5.cl = cl → R5.cd = cd → rdL top f R5 = X →
        J v mX6_readSetup (rmOf 6 1 600) (KM v (pU v h q top X) noX 1 600) top 1 600 (rdH v (hp h top (aI v cl (cpF (sF cd) (fun _ => 0) cl))) q R5) (top + 1) 65 [some (.ref q), some (.int (nI j))] [] := by
      intro f
      induction f with
      | zero =>
        intro j R5 hj ok5 hn5 hT5 n5 h1 cl cd hcl hcd hE
        have hE : (false, R5.fail (-2)) = X := hE
        refine r_iload_n (pc := 65) (i := 1) (tX6_readSetup.at 35 rfl) rfl rfl ?_
        refine r_aload_n (pc := 66) (i := 0) (tX6_readSetup.at 36 rfl) rfl rfl ?_
        refine r_get (pc := 67) (tX6_readSetup.at 37 rfl) gf_X6_12 (rdH_0) rfl ?_
        refine r_get (pc := 70) (tX6_readSetup.at 38 rfl) gf_X6_80 (rdH_t0) rfl ?_
        rw [hT5]
        refine r_icmp_geN (pc := 73) 107 (tX6_readSetup.at 39 rfl) (by decide) (by omega) (by omega) (fun _ => ?_) (fun c => by omega)
        refine r_aload_n (pc := 107) (i := 0) (tX6_readSetup.at 55 rfl) rfl rfl ?_
        refine r_bipush (pc := 108) (w := zI (-2)) (tX6_readSetup.at 56 rfl) (by decide) ?_
        refine r_callV (M' := mX6_fail) (pc := 110) (tX6_readSetup.at 57 rfl) ml_X6_64 rfl mw_X6_fail ⟨by decide, by decide⟩ (rdH_0) rfl rfl (c_fail (c := -2)) rfl rfl (Nat.le_of_ble_eq_true rfl) (Nat.le_of_ble_eq_true rfl) (Nat.le_of_ble_eq_true rfl) ?_
        rintro _ _ _ ⟨rfl, rfl, rfl⟩
        refine r_zret (pc := 113) (tX6_readSetup.at 58 rfl) rfl (rfl) (Nat.le_of_ble_eq_true rfl) (Nat.le_of_ble_eq_true rfl) ?_
        rw [← hE]
        exact ⟨rfl, RD.fail_ok ok5 _, Or.inr ⟨_, _, rfl, rfl, fun z => (by cases z)⟩⟩
      | succ f ih =>
        intro j R5 hj ok5 hn5 hT5 n5 h1 cl cd hcl hcd hE
        have ok6 := RD.take_ok ok5
        have k6 : -128 ≤ R5.take.kd ∧ R5.take.kd ≤ 266 := ok6.1.2.1
        have n6 : nxk 4 R5.take := nxk.take n5 ok5.1.1
        have hn6 : 1 ≤ R5.take.G.n := by have : 2 ≤ R5.take.G.n := hn5; omega
        rw [rdL] at hE
        refine r_iload_n (pc := 65) (i := 1) (tX6_readSetup.at 35 rfl) rfl rfl ?_
        refine r_aload_n (pc := 66) (i := 0) (tX6_readSetup.at 36 rfl) rfl rfl ?_
        refine r_get (pc := 67) (tX6_readSetup.at 37 rfl) gf_X6_12 (rdH_0) rfl ?_
        refine r_get (pc := 70) (tX6_readSetup.at 38 rfl) gf_X6_80 (rdH_t0) rfl ?_
        rw [hT5]
        refine r_icmp_geN (pc := 73) 107 (tX6_readSetup.at 39 rfl) (by decide) (by omega) (by omega) (fun c => by omega) (fun _ => ?_)
        refine r_aload_n (pc := 76) (i := 0) (tX6_readSetup.at 40 rfl) rfl rfl ?_
        refine r_callV (M' := mX6_takeToken) (pc := 77) (tX6_readSetup.at 41 rfl) ml_X6_61 rfl mw_X6_takeToken ⟨by decide, by decide⟩ (rdH_0) rfl rfl (c_take ok5) rfl rfl (Nat.le_of_ble_eq_true rfl) (Nat.le_of_ble_eq_true rfl) (Nat.le_of_ble_eq_true rfl) ?_
        rintro _ _ _ ⟨rfl, rfl, rfl⟩
        refine r_aload_n (pc := 80) (i := 0) (tX6_readSetup.at 42 rfl) rfl rfl ?_
        refine r_get (pc := 81) (tX6_readSetup.at 43 rfl) gf_X6_35 (rdH_0) rfl ?_
        refine r_sipush (pc := 84) (w := zI 256) (tX6_readSetup.at 44 rfl) (by decide) ?_
        refine r_eq rfl (st2 := [.int (zI 256), .int (zI R5.take.kd)]) rfl ?_
        refine r_icmp_neZ (pc := 87) 92 (tX6_readSetup.at 45 rfl) (by decide) ⟨by omega, by omega⟩ ⟨by omega, by omega⟩ (fun c5 => ?_) (fun c5 => ?_)
        · rw [if_neg c5] at hE
          have hst : rdStm (top + 1) R5.take = rdStm top R5.take := rdStm_F h1
          have ok7 := rdStm_ok (F := top) ok6 hn6
          refine r_aload_n (pc := 92) (i := 0) (tX6_readSetup.at 48 rfl) rfl rfl ?_
          refine r_callV (M' := mX6_readStatement) (pc := 93) (tX6_readSetup.at 49 rfl) ml_X6_83 rfl mw_X6_readStatement ⟨by decide, by decide⟩ (rdH_0) rfl rfl (c_rdStm0 ok6 hn6 n6 (show endT R5.T by rw [hT5]; exact he) (Or.inl h1)) rfl rfl (Nat.le_of_ble_eq_true rfl) (Nat.le_of_ble_eq_true rfl) (Nat.le_of_ble_eq_true rfl) ?_
          rintro _ _ _ ⟨rfl, hor2⟩
          rw [hst] at hor2 ⊢
          have hor3 := hor2.resolve_left (fun z => by have := z.1; have h2 : R5.take.hc = 1 := h1; omega)
          obtain ⟨g1, rfl, rfl⟩ := hor3
          by_cases c6 : (rdStm top R5.take).1 = false
          · rw [if_pos c6] at hE
            rw [c6]
            refine r_if_neN (pc := 96) 101 (tX6_readSetup.at 50 rfl) (by decide) (by decide) (fun z => absurd rfl z) (fun _ => ?_)
            refine r_iconst (pc := 99) (w := nI 0) (tX6_readSetup.at 51 rfl) (by decide) ?_
            refine r_zret (pc := 100) (tX6_readSetup.at 52 rfl) rfl (rfl) (Nat.le_of_ble_eq_true rfl) (Nat.le_of_ble_eq_true rfl) ?_
            rw [← hE]
            exact ⟨rfl, ok7, Or.inr ⟨_, _, rfl, rfl, fun z => (by cases z)⟩⟩
          · rw [if_neg c6] at hE
            have f7 := rdStm_fr ok6 hn6 (bT c6)
            obtain ⟨g4, g5, g6⟩ := g1 (bT c6)
            rw [bT c6]
            refine r_if_neN (pc := 96) 101 (tX6_readSetup.at 50 rfl) (by decide) (by decide) (fun _ => ?_) (fun z => absurd z (by decide))
            first | refine r_iincN (pc := 101) (tX6_readSetup.at 53 rfl) rfl (by decide) ?_ | refine r_iinc (pc := 101) (tX6_readSetup.at 53 rfl) rfl rfl (by decide) ?_
            refine r_goto (pc := 104) 65 (tX6_readSetup.at 54 rfl) (by decide) ?_
            exact ih (j + 1) _ (by omega) ok7 (by rw [f7.2.1]; exact hn5) (f7.1.trans hT5) (nxk_w (f7.2.2 n6) (by omega)) (g4.trans h1) cl cd (g5.trans hcl) (g6.trans hcd) hE
        · rw [if_pos c5] at hE
          refine r_iconst (pc := 90) (w := nI 1) (tX6_readSetup.at 46 rfl) (by decide) ?_
          refine r_zret (pc := 91) (tX6_readSetup.at 47 rfl) rfl (rfl) (Nat.le_of_ble_eq_true rfl) (Nat.le_of_ble_eq_true rfl) ?_
          rw [← hE]
          exact ⟨rfl, ok6, Or.inr ⟨_, _, rfl, rfl, fun _ => ⟨h1, hcl.symm, by rw [← hcl, ← hcd]; rfl⟩⟩⟩
    have keyA : ∀ f j (R5 : RD), j + f = R.T.2.2 → okR R5 → 2 ≤ R5.G.n → R5.T = R.T → nxk 3 R5 → R5.hc = 0 → rdL top f R5 = X →
        J v mX6_readSetup (rmOf 6 1 600) (KM v (pU v h q top X) noX 1 600) top 0 0 (rdH v h q R5) top 65 [some (.ref q), some (.int (nI j))] [] := by
      intro f
      induction f with
      | zero =>
        intro j R5 hj ok5 hn5 hT5 n5 h1 hE
        have hE : (false, R5.fail (-2)) = X := hE
        refine r_iload_n (pc := 65) (i := 1) (tX6_readSetup.at 35 rfl) rfl rfl ?_
        refine r_aload_n (pc := 66) (i := 0) (tX6_readSetup.at 36 rfl) rfl rfl ?_
        refine r_get (pc := 67) (tX6_readSetup.at 37 rfl) gf_X6_12 (rdH_0) rfl ?_
        refine r_get (pc := 70) (tX6_readSetup.at 38 rfl) gf_X6_80 (rdH_t0) rfl ?_
        rw [hT5]
        refine r_icmp_geN (pc := 73) 107 (tX6_readSetup.at 39 rfl) (by decide) (by omega) (by omega) (fun _ => ?_) (fun c => by omega)
        refine r_aload_n (pc := 107) (i := 0) (tX6_readSetup.at 55 rfl) rfl rfl ?_
        refine r_bipush (pc := 108) (w := zI (-2)) (tX6_readSetup.at 56 rfl) (by decide) ?_
        refine r_callV (M' := mX6_fail) (pc := 110) (tX6_readSetup.at 57 rfl) ml_X6_64 rfl mw_X6_fail ⟨by decide, by decide⟩ (rdH_0) rfl rfl (c_fail (c := -2)) rfl rfl (Nat.le_of_ble_eq_true rfl) (Nat.le_of_ble_eq_true rfl) (Nat.le_of_ble_eq_true rfl) ?_
        rintro _ _ _ ⟨rfl, rfl, rfl⟩
        refine r_zret (pc := 113) (tX6_readSetup.at 58 rfl) rfl (rfl) (Nat.le_of_ble_eq_true rfl) (Nat.le_of_ble_eq_true rfl) ?_
        rw [← hE]
        exact ⟨rfl, RD.fail_ok ok5 _, Or.inl ⟨rfl, rfl, fun z => (by cases z)⟩⟩
      | succ f ih =>
        intro j R5 hj ok5 hn5 hT5 n5 h1 hE
        have ok6 := RD.take_ok ok5
        have k6 : -128 ≤ R5.take.kd ∧ R5.take.kd ≤ 266 := ok6.1.2.1
        have n6 : nxk 4 R5.take := nxk.take n5 ok5.1.1
        have hn6 : 1 ≤ R5.take.G.n := by have : 2 ≤ R5.take.G.n := hn5; omega
        rw [rdL] at hE
        refine r_iload_n (pc := 65) (i := 1) (tX6_readSetup.at 35 rfl) rfl rfl ?_
        refine r_aload_n (pc := 66) (i := 0) (tX6_readSetup.at 36 rfl) rfl rfl ?_
        refine r_get (pc := 67) (tX6_readSetup.at 37 rfl) gf_X6_12 (rdH_0) rfl ?_
        refine r_get (pc := 70) (tX6_readSetup.at 38 rfl) gf_X6_80 (rdH_t0) rfl ?_
        rw [hT5]
        refine r_icmp_geN (pc := 73) 107 (tX6_readSetup.at 39 rfl) (by decide) (by omega) (by omega) (fun c => by omega) (fun _ => ?_)
        refine r_aload_n (pc := 76) (i := 0) (tX6_readSetup.at 40 rfl) rfl rfl ?_
        refine r_callV (M' := mX6_takeToken) (pc := 77) (tX6_readSetup.at 41 rfl) ml_X6_61 rfl mw_X6_takeToken ⟨by decide, by decide⟩ (rdH_0) rfl rfl (c_take ok5) rfl rfl (Nat.le_of_ble_eq_true rfl) (Nat.le_of_ble_eq_true rfl) (Nat.le_of_ble_eq_true rfl) ?_
        rintro _ _ _ ⟨rfl, rfl, rfl⟩
        refine r_aload_n (pc := 80) (i := 0) (tX6_readSetup.at 42 rfl) rfl rfl ?_
        refine r_get (pc := 81) (tX6_readSetup.at 43 rfl) gf_X6_35 (rdH_0) rfl ?_
        refine r_sipush (pc := 84) (w := zI 256) (tX6_readSetup.at 44 rfl) (by decide) ?_
        refine r_eq rfl (st2 := [.int (zI 256), .int (zI R5.take.kd)]) rfl ?_
        refine r_icmp_neZ (pc := 87) 92 (tX6_readSetup.at 45 rfl) (by decide) ⟨by omega, by omega⟩ ⟨by omega, by omega⟩ (fun c5 => ?_) (fun c5 => ?_)
        · rw [if_neg c5] at hE
          have ok7 := rdStm_ok (F := top) ok6 hn6
          by_cases c7 : R5.take.kd = 262
          · refine r_aload_n (pc := 92) (i := 0) (tX6_readSetup.at 48 rfl) rfl rfl ?_
            refine r_callV (M' := mX6_readStatement) (pc := 93) (tX6_readSetup.at 49 rfl) ml_X6_83 rfl mw_X6_readStatement ⟨by decide, by decide⟩ (rdH_0) rfl rfl (c_rdStm ok6 hn6 n6 (show endT R5.T by rw [hT5]; exact he) hq) rfl rfl (Nat.le_of_ble_eq_true rfl) (Nat.le_of_ble_eq_true rfl) (Nat.le_of_ble_eq_true rfl) ?_
            rintro _ _ _ ⟨rfl, hor2⟩
            by_cases c6 : (rdStm top R5.take).1 = false
            · rw [if_pos c6] at hE
              rw [c6]
              refine r_if_neN (pc := 96) 101 (tX6_readSetup.at 50 rfl) (by decide) (by decide) (fun z => absurd rfl z) (fun _ => ?_)
              obtain ⟨-, rfl, rfl⟩ := hor2.resolve_left (fun z => by have := z.2.1; rw [c6] at this; cases this)
              refine r_iconst (pc := 99) (w := nI 0) (tX6_readSetup.at 51 rfl) (by decide) ?_
              refine r_zret (pc := 100) (tX6_readSetup.at 52 rfl) rfl (rfl) (Nat.le_of_ble_eq_true rfl) (Nat.le_of_ble_eq_true rfl) ?_
              rw [← hE]
              exact ⟨rfl, ok7, Or.inl ⟨rfl, rfl, fun z => (by cases z)⟩⟩
            · rw [if_neg c6] at hE
              have f7 := rdStm_fr ok6 hn6 (bT c6)
              have hcs : (rdStm top R5.take).2.hc = 1 := by
                have e1 := bT c6
                have e2 : rdStm top R5.take = (if (rdCost R5.take).1 = false then (false, (rdCost R5.take).2) else (true, (rdCost R5.take).2.sG ((rdCost R5.take).2.G.sF top))) := by
                  rw [rdStm, if_neg (by omega), if_neg (by omega), if_neg (by omega), if_pos c7]
                rw [e2] at e1 ⊢
                split
                · next c8 => rw [if_pos c8] at e1; cases e1
                · next c8 => exact (rdCost_fr ok6 (bT c8)).2.1
              rw [bT c6]
              refine r_if_neN (pc := 96) 101 (tX6_readSetup.at 50 rfl) (by decide) (by decide) (fun _ => ?_) (fun z => absurd z (by decide))
              rcases hor2 with ⟨-, -, -, rfl, rfl⟩ | ⟨g1, -, -⟩
              · first | refine r_iincN (pc := 101) (tX6_readSetup.at 53 rfl) rfl (by decide) ?_ | refine r_iinc (pc := 101) (tX6_readSetup.at 53 rfl) rfl rfl (by decide) ?_
                refine r_goto (pc := 104) 65 (tX6_readSetup.at 54 rfl) (by decide) ?_
                exact keyB f (j + 1) _ (by omega) ok7 (by rw [f7.2.1]; exact hn5) (f7.1.trans hT5) (nxk_w (f7.2.2 n6) (by omega)) hcs _ _ rfl rfl hE
              · have g2 := (g1 (bT c6)).1
                have h2 : R5.take.hc = 0 := h1
                omega
          · refine r_aload_n (pc := 92) (i := 0) (tX6_readSetup.at 48 rfl) rfl rfl ?_
            refine r_callV (M' := mX6_readStatement) (pc := 93) (tX6_readSetup.at 49 rfl) ml_X6_83 rfl mw_X6_readStatement ⟨by decide, by decide⟩ (rdH_0) rfl rfl (c_rdStm0 ok6 hn6 n6 (show endT R5.T by rw [hT5]; exact he) (Or.inr c7)) rfl rfl (Nat.le_of_ble_eq_true rfl) (Nat.le_of_ble_eq_true rfl) (Nat.le_of_ble_eq_true rfl) ?_
            rintro _ _ _ ⟨rfl, hor2⟩
            by_cases c6 : (rdStm top R5.take).1 = false
            · rw [if_pos c6] at hE
              rw [c6]
              refine r_if_neN (pc := 96) 101 (tX6_readSetup.at 50 rfl) (by decide) (by decide) (fun z => absurd rfl z) (fun _ => ?_)
              obtain ⟨-, rfl, rfl⟩ := hor2.resolve_left (fun z => by have := z.2.1; rw [c6] at this; cases this)
              refine r_iconst (pc := 99) (w := nI 0) (tX6_readSetup.at 51 rfl) (by decide) ?_
              refine r_zret (pc := 100) (tX6_readSetup.at 52 rfl) rfl (rfl) (Nat.le_of_ble_eq_true rfl) (Nat.le_of_ble_eq_true rfl) ?_
              rw [← hE]
              exact ⟨rfl, ok7, Or.inl ⟨rfl, rfl, fun z => (by cases z)⟩⟩
            · rw [if_neg c6] at hE
              have f7 := rdStm_fr ok6 hn6 (bT c6)
              have hcs : (rdStm top R5.take).2.hc = 0 := by
                have h2 : R5.take.hc = 0 := h1
                have e1 := bT c6
                unfold rdStm at e1 ⊢
                split
                · split
                  · exact (fr5_edge ok6).2.1.trans h2
                  · exact ((fr5_edge ok6).trans (fr5_semi (rdEdge_ok ok6))).2.1.trans h2
                · split
                  · split
                    · exact (fr5_abs ok6).2.1.trans h2
                    · exact ((fr5_abs ok6).trans (fr5_semi (rdAbs_ok ok6 hn6))).2.1.trans h2
                  · split
                    · split
                      · exact (fr5_join ok6).2.1.trans h2
                      · exact ((fr5_join ok6).trans (fr5_semi (rdJoin_ok ok6 hn6))).2.1.trans h2
                    · exact h2
              rw [bT c6]
              refine r_if_neN (pc := 96) 101 (tX6_readSetup.at 50 rfl) (by decide) (by decide) (fun _ => ?_) (fun z => absurd z (by decide))
              rcases hor2 with ⟨-, -, g3, -, -⟩ | ⟨-, rfl, rfl⟩
              · omega
              · first | refine r_iincN (pc := 101) (tX6_readSetup.at 53 rfl) rfl (by decide) ?_ | refine r_iinc (pc := 101) (tX6_readSetup.at 53 rfl) rfl rfl (by decide) ?_
                refine r_goto (pc := 104) 65 (tX6_readSetup.at 54 rfl) (by decide) ?_
                exact ih (j + 1) _ (by omega) ok7 (by rw [f7.2.1]; exact hn5) (f7.1.trans hT5) (nxk_w (f7.2.2 n6) (by omega)) hcs hE
        · rw [if_pos c5] at hE
          refine r_iconst (pc := 90) (w := nI 1) (tX6_readSetup.at 46 rfl) (by decide) ?_
          refine r_zret (pc := 91) (tX6_readSetup.at 47 rfl) rfl (rfl) (Nat.le_of_ble_eq_true rfl) (Nat.le_of_ble_eq_true rfl) ?_
          rw [← hE]
          exact ⟨rfl, ok6, Or.inl ⟨rfl, rfl, fun _ => h1⟩⟩
    exact keyA R.T.2.2 0 R4 (by omega) ok4 hn4 hT4 n4 hc4 hX
  · rw [if_pos c1] at hX
    refine r_aload_n (pc := 24) (i := 0) (tX6_readSetup.at 12 rfl) rfl rfl ?_
    refine r_bipush (pc := 25) (w := zI (-2)) (tX6_readSetup.at 13 rfl) (by decide) ?_
    refine r_callV (M' := mX6_fail) (pc := 27) (tX6_readSetup.at 14 rfl) ml_X6_64 rfl mw_X6_fail ⟨by decide, by decide⟩ (rdH_0) rfl rfl (c_fail (c := -2)) rfl rfl (Nat.le_of_ble_eq_true rfl) (Nat.le_of_ble_eq_true rfl) (Nat.le_of_ble_eq_true rfl) ?_
    rintro _ _ _ ⟨rfl, rfl, rfl⟩
    refine r_zret (pc := 30) (tX6_readSetup.at 15 rfl) rfl (rfl) (Nat.le_of_ble_eq_true rfl) (Nat.le_of_ble_eq_true rfl) ?_
    rw [← hX]
    exact ⟨rfl, RD.fail_ok ok1 _, Or.inl ⟨rfl, rfl, fun z => (by cases z)⟩⟩
/-- the reader as it is made -/
def T0 : TK := ((fun _ => 0, 0), (fun _ => 0, fun _ => 0, fun _ => 0), 0)
def R0 (v : Ev) : RD := (((0, -1, 0), (256, 0, 0), (0, 0, 0)), T0, G0 v, fun _ => 0, fun _ => 0)
theorem c_rdInit {v : Ev} {h : Hp} {q : Nat} (hq : h q = some (ob 6 [.null, .null, .int 0, .int 0, .int 0, .int 0, .int 0, .int 0, .int 0, .null, .int 0, .null, .int 0])) : Cal v mX6_init 3 13 3111 [.ref q] h (q + 1) (pT (rdH v h q (R0 v)) (q + 14)) noX := by
  refine Cal.ofJ (by decide +kernel) rfl (Nat.le_of_ble_eq_true rfl) fun hz0 => ?_
  refine r_ls [some (.ref q)] rfl ?_
  refine r_aload_n (pc := 0) (i := 0) (tX6_init.at 0 rfl) rfl rfl ?_
  refine r_objInit (pc := 1) (tX6_init.at 1 rfl) ml_X6_3 oi_inst oi_code (Nat.le_of_ble_eq_true rfl) (Nat.le_of_ble_eq_true rfl) ?_
  refine r_aload_n (pc := 4) (i := 0) (tX6_init.at 2 rfl) rfl rfl ?_
  refine r_new (pc := 5) (tX6_init.at 3 rfl) nw_X6_9 (Nat.le_of_ble_eq_true rfl) (Nat.le_of_ble_eq_true rfl) (fun _ => ?_)
  refine r_dup (pc := 8) (tX6_init.at 4 rfl) rfl ?_
  refine r_callI (M' := mX9_init) (pc := 9) (tX6_init.at 5 rfl) (Or.inr ⟨_, mn_X6_11⟩) rfl rfl mw_X9_init ⟨by decide, by decide⟩ (c_tkInit (q := q + 1) (hp_eq _ _ _)) rfl rfl (Nat.le_of_ble_eq_true rfl) (Nat.le_of_ble_eq_true rfl) (Nat.le_of_ble_eq_true rfl) ?_
  rintro _ _ _ ⟨rfl, rfl, rfl⟩
  have h0 : tkH v (hp h (q + 1) (ob 9 [.null, .int 0, .null, .null, .null, .int 0])) (q + 1) T0 q = some (ob 6 [.null, .null, .int 0, .int 0, .int 0, .int 0, .int 0, .int 0, .int 0, .null, .int 0, .null, .int 0]) := (tkH_out (by omega)).trans ((hp_ne _ _ (by omega)).trans hq)
  refine r_putF (pc := 12) (tX6_init.at 6 rfl) pff_X6_12 rfl (h0) (Nat.le_of_ble_eq_true rfl) rfl rfl ?_
  refine r_aload_n (pc := 15) (i := 0) (tX6_init.at 7 rfl) rfl rfl ?_
  refine r_new (pc := 16) (tX6_init.at 8 rfl) nw_X6_18 (Nat.le_of_ble_eq_true rfl) (Nat.le_of_ble_eq_true rfl) (fun _ => ?_)
  refine r_dup (pc := 19) (tX6_init.at 9 rfl) rfl ?_
  refine r_callI (M' := mX3_init) (pc := 20) (tX6_init.at 10 rfl) (Or.inr ⟨_, mn_X6_20⟩) rfl rfl mw_X3_init ⟨by decide, by decide⟩ (c_gInit (g := q + 6) (hp_eq _ _ _)) rfl rfl (Nat.le_of_ble_eq_true rfl) (Nat.le_of_ble_eq_true rfl) (Nat.le_of_ble_eq_true rfl) ?_
  rintro _ _ _ ⟨rfl, rfl, rfl⟩
  have h1 : gH v (hp (hp (tkH v (hp h (q + 1) (ob 9 [.null, .int 0, .null, .null, .null, .int 0])) (q + 1) T0) q (ob 6 [.ref (q + 1), .null, .int 0, .int 0, .int 0, .int 0, .int 0, .int 0, .int 0, .null, .int 0, .null, .int 0])) (q + 6) (ob 3 gNew)) (q + 6) (G0 v) q = some (ob 6 [.ref (q + 1), .null, .int 0, .int 0, .int 0, .int 0, .int 0, .int 0, .int 0, .null, .int 0, .null, .int 0]) := (gH_out _ _ _ _ (by omega)).trans ((hp_ne _ _ (by omega)).trans (hp_eq _ _ _))
  refine r_putF (pc := 23) (tX6_init.at 11 rfl) pff_X6_21 rfl (h1) (Nat.le_of_ble_eq_true rfl) rfl rfl ?_
  refine r_aload_n (pc := 26) (i := 0) (tX6_init.at 12 rfl) rfl rfl ?_
  refine r_iconst (pc := 27) (w := nI 0) (tX6_init.at 13 rfl) (by decide) ?_
  refine r_put (pc := 28) (tX6_init.at 14 rfl) pf_X6_25 (hp_eq _ _ _) (Nat.le_of_ble_eq_true rfl) (rfl) (rfl) ?_
  refine r_aload_n (pc := 31) (i := 0) (tX6_init.at 15 rfl) rfl rfl ?_
  refine r_iconst (pc := 32) (w := zI (-1)) (tX6_init.at 16 rfl) (by decide) ?_
  refine r_put (pc := 33) (tX6_init.at 17 rfl) pf_X6_29 (hp_eq _ _ _) (Nat.le_of_ble_eq_true rfl) (rfl) (rfl) ?_
  refine r_aload_n (pc := 36) (i := 0) (tX6_init.at 18 rfl) rfl rfl ?_
  refine r_iconst (pc := 37) (w := nI 0) (tX6_init.at 19 rfl) (by decide) ?_
  refine r_put (pc := 38) (tX6_init.at 20 rfl) pf_X6_32 (hp_eq _ _ _) (Nat.le_of_ble_eq_true rfl) (rfl) (rfl) ?_
  refine r_aload_n (pc := 41) (i := 0) (tX6_init.at 21 rfl) rfl rfl ?_
  refine r_sipush (pc := 42) (w := nI 256) (tX6_init.at 22 rfl) (by decide) ?_
  refine r_put (pc := 45) (tX6_init.at 23 rfl) pf_X6_35 (hp_eq _ _ _) (Nat.le_of_ble_eq_true rfl) (rfl) (rfl) ?_
  refine r_aload_n (pc := 48) (i := 0) (tX6_init.at 24 rfl) rfl rfl ?_
  refine r_iconst (pc := 49) (w := nI 0) (tX6_init.at 25 rfl) (by decide) ?_
  refine r_put (pc := 50) (tX6_init.at 26 rfl) pf_X6_38 (hp_eq _ _ _) (Nat.le_of_ble_eq_true rfl) (rfl) (rfl) ?_
  refine r_aload_n (pc := 53) (i := 0) (tX6_init.at 27 rfl) rfl rfl ?_
  refine r_iconst (pc := 54) (w := nI 0) (tX6_init.at 28 rfl) (by decide) ?_
  refine r_put (pc := 55) (tX6_init.at 29 rfl) pf_X6_41 (hp_eq _ _ _) (Nat.le_of_ble_eq_true rfl) (rfl) (rfl) ?_
  refine r_aload_n (pc := 58) (i := 0) (tX6_init.at 30 rfl) rfl rfl ?_
  refine r_iconst (pc := 59) (w := nI 0) (tX6_init.at 31 rfl) (by decide) ?_
  refine r_put (pc := 60) (tX6_init.at 32 rfl) pf_X6_44 (hp_eq _ _ _) (Nat.le_of_ble_eq_true rfl) (rfl) (rfl) ?_
  refine r_aload_n (pc := 63) (i := 0) (tX6_init.at 33 rfl) rfl rfl ?_
  refine r_sipush (pc := 64) (w := nI 600) (tX6_init.at 34 rfl) (by decide) ?_
  refine r_newaI (pc := 67) (600) (tX6_init.at 35 rfl) (rfl) (Nat.le_of_ble_eq_true rfl) ac_int (Nat.le_of_ble_eq_true rfl) (Nat.le_of_ble_eq_true rfl) (fun fr67 => ?_)
  refine r_putF (pc := 69) (tX6_init.at 36 rfl) pff_X6_48 rfl ((hp_ne _ _ (by omega)).trans (hp_eq _ _ _)) (Nat.le_of_ble_eq_true rfl) rfl rfl ?_
  refine r_aload_n (pc := 72) (i := 0) (tX6_init.at 37 rfl) rfl rfl ?_
  refine r_iconst (pc := 73) (w := nI 0) (tX6_init.at 38 rfl) (by decide) ?_
  refine r_put (pc := 74) (tX6_init.at 39 rfl) pf_X6_52 (hp_eq _ _ _) (Nat.le_of_ble_eq_true rfl) (rfl) (rfl) ?_
  refine r_aload_n (pc := 77) (i := 0) (tX6_init.at 40 rfl) rfl rfl ?_
  refine r_bipush (pc := 78) (w := nI 14) (tX6_init.at 41 rfl) (by decide) ?_
  refine r_newaI (pc := 80) (14) (tX6_init.at 42 rfl) (rfl) (Nat.le_of_ble_eq_true rfl) ac_int (Nat.le_of_ble_eq_true rfl) (Nat.le_of_ble_eq_true rfl) (fun fr80 => ?_)
  refine r_putF (pc := 82) (tX6_init.at 43 rfl) pff_X6_55 rfl ((hp_ne _ _ (by omega)).trans (hp_eq _ _ _)) (Nat.le_of_ble_eq_true rfl) rfl rfl ?_
  refine r_aload_n (pc := 85) (i := 0) (tX6_init.at 44 rfl) rfl rfl ?_
  refine r_iconst (pc := 86) (w := nI 0) (tX6_init.at 45 rfl) (by decide) ?_
  refine r_put (pc := 87) (tX6_init.at 46 rfl) pf_X6_58 (hp_eq _ _ _) (Nat.le_of_ble_eq_true rfl) (rfl) (rfl) ?_
  refine r_vret (pc := 90) (tX6_init.at 47 rfl) rfl (Nat.le_of_ble_eq_true rfl) (Nat.le_of_ble_eq_true rfl) ?_
  refine ⟨rfl, (rdH_ext ?_ ?_ ?_ ?_ ?_ ?_).symm, rfl⟩
  · simp [hp]
    rfl
  · intro k hk
    repeat rw [hp_ne _ _ (by omega)]
    rw [gH_out _ _ _ _ (by omega)]
    repeat rw [hp_ne _ _ (by omega)]
    show tkH v _ (q + 1) T0 (q + 1 + k) = _
    unfold tkH
    rw [if_pos (by omega), if_pos (by omega)]
    rfl
  · exact (gH_is v _ (q + 6) (G0 v)).frame (fun a h1 h2 => by repeat rw [hp_ne _ _ (by omega)])
  · simp [hp]
    rfl
  · simp [hp]
    rfl
  · intro a ha
    repeat rw [hp_ne _ _ (by omega)]
    rw [gH_out _ _ _ _ (by omega)]
    repeat rw [hp_ne _ _ (by omega)]
    rw [tkH_out (by omega)]
    exact hp_ne _ _ (by omega)

