/-! ===== Reader: statements, the whole text ===== -/
theorem rdC_ok : ∀ (f n : Nat) (w : Bool) (R : RD), okR R → okR (rdC f n w R).2
  | 0, n, w, R, h => RD.fail_ok h _
  | f + 1, n, w, R, h => by
    have ht := RD.take_ok h
    have kb : -128 ≤ R.take.kd ∧ R.take.kd ≤ 266 := ht.1.2.1
    rw [rdC]
    split
    · split
      · split
        · exact RD.fail_ok ht _
        · exact rdC_ok f _ _ _ (RD.push_ok ht kb)
      · split
        · exact rdC_ok f _ _ _ (rdFac_ok ht)
        · exact rdFac_ok ht
    · split
      · exact rdC_ok f _ _ _ (RD.push_ok (RD.rel_ok ht) kb)
      · split
        · have h2 := RD.rel_ok (s := 1) ht
          have h3 : (R.take.rel 1).wc ≤ 14 := h2.1.2.2.2.2.2.2
          exact rdC_ok f _ _ _ (RD.sWc_ok h2 (by omega))
        · split
          · exact RD.rel_ok ht
          · exact RD.fail_ok ht _
theorem RD.beg_ok {R : RD} (ok : okR R) : okR R.beg := by
  obtain ⟨⟨h1, h2, h3, h4, h5, h6, h7⟩, g⟩ := ok
  exact ⟨⟨h1, h2, h3, h4, Nat.le_refl _, Nat.zero_le _, Nat.zero_le _⟩, g⟩
theorem rdCost_ok {R : RD} (h : okR R) : okR (rdCost R).2 := by
  unfold rdCost
  split
  · exact RD.fail_ok h _
  · exact rdC_ok _ _ _ _ (RD.beg_ok h)
/-- what a step keeps -/
def fr3 (R R' : RD) : Prop := R'.T = R.T ∧ R'.G.n = R.G.n ∧ (nxk 4 R → nxk 4 R')
def fr5 (R R' : RD) : Prop := fr3 R R' ∧ R'.hc = R.hc ∧ R'.cl = R.cl ∧ R'.cd = R.cd
theorem fr3.trans {A B C : RD} (h : fr3 A B) (k : fr3 B C) : fr3 A C := ⟨k.1.trans h.1, k.2.1.trans h.2.1, fun z => k.2.2 (h.2.2 z)⟩
theorem fr5.trans {A B C : RD} (h : fr5 A B) (k : fr5 B C) : fr5 A C := ⟨h.1.trans k.1, k.2.1.trans h.2.1, k.2.2.1.trans h.2.2.1, k.2.2.2.trans h.2.2.2⟩
theorem nxk_w {k l : Nat} {R : RD} (h : nxk k R) (hl : l ≤ k) : nxk l R := by unfold nxk at *; omega
theorem fr5_take {R : RD} (h : okR R) : fr5 R R.take := ⟨⟨rfl, rfl, fun z => nxk_w (nxk.take z h.1.1) (by omega)⟩, rfl, rfl, rfl⟩
theorem fr5_fail (R : RD) (c : Int) : fr5 R (R.fail c) := ⟨⟨rfl, rfl, fun z => z⟩, rfl, rfl, rfl⟩
theorem fr5_sG (R : RD) {G : GT} (h : G.n = R.G.n) : fr5 R (R.sG G) := ⟨⟨rfl, h, fun z => z⟩, rfl, rfl, rfl⟩
theorem fr5_num {a b : Nat} {R : RD} (h : okR R) : fr5 R (rdNum a b R).2 := by
  unfold rdNum
  split
  · exact (fr5_take h).trans (fr5_fail _ _)
  · split
    · exact (fr5_take h).trans (fr5_fail _ _)
    · exact fr5_take h
theorem fr5_semi {R : RD} (h : okR R) : fr5 R (rdSemi R).2 := by
  unfold rdSemi
  split
  · exact fr5_take h
  · exact (fr5_take h).trans (fr5_fail _ _)
theorem adE_n (G : GT) (a b w : Nat) : (G.adE a b w).n = G.n := by
  unfold GT.adE
  split <;> rfl
theorem fr5_edge {R : RD} (h : okR R) : fr5 R (rdEdge R).2 := by
  have h1 : okR (rdVtx R).2 := rdNum_ok h
  have h2 : okR (rdVtx (rdVtx R).2).2 := rdNum_ok h1
  have f1 : fr5 R (rdVtx R).2 := fr5_num h
  have f2 : fr5 R (rdVtx (rdVtx R).2).2 := f1.trans (fr5_num h1)
  have f3 : fr5 R (rdNum 1 9 (rdVtx (rdVtx R).2).2).2 := f2.trans (fr5_num h2)
  unfold rdEdge
  split
  · exact f1
  · split
    · exact f2
    · split
      · exact f2.trans (fr5_fail _ _)
      · split
        · exact f3
        · exact f3.trans (fr5_sG _ (by rw [adE_n]; exact f3.1.2.1.symm))
theorem fr5_abs {R : RD} (h : okR R) : fr5 R (rdAbs R).2 := by
  have f1 : fr5 R (rdVtx R).2 := fr5_num h
  unfold rdAbs
  split
  · exact f1
  · split
    · exact f1.trans (fr5_fail _ _)
    · exact f1.trans (fr5_sG _ f1.1.2.1.symm)
theorem fr5_join {R : RD} (h : okR R) : fr5 R (rdJoin R).2 := by
  have h1 : okR (rdVtx R).2 := rdNum_ok h
  have f1 : fr5 R (rdVtx R).2 := fr5_num h
  have f2 : fr5 R (rdVtx (rdVtx R).2).2 := f1.trans (fr5_num h1)
  unfold rdJoin
  split
  · exact f1
  · split
    · exact f2
    · exact f2.trans (fr5_sG _ f2.1.2.1.symm)
theorem grw.fr3 {R R' : RD} {d : Nat} (g : grw R R' d) : fr3 R R' := ⟨g.1, by rw [g.2.1], fun z => z.grw g⟩
theorem rdC_fr : ∀ (f n : Nat) (w : Bool) (R : RD), okR R → (rdC f n w R).1 = true → fr3 R (rdC f n w R).2 ∧ (rdC f n w R).2.hc = R.hc
  | 0, n, w, R, h, ht => by cases ht
  | f + 1, n, w, R, h, ht => by
    have ok := RD.take_ok h
    have f1 : fr3 R R.take := (fr5_take h).1
    have kb : -128 ≤ R.take.kd ∧ R.take.kd ≤ 266 := ok.1.2.1
    rw [rdC] at ht ⊢
    split
    · next c =>
      rw [if_pos c] at ht
      split
      · next c2 =>
        rw [if_pos c2] at ht
        split
        · next c3 => rw [if_pos c3] at ht; cases ht
        · next c3 =>
          rw [if_neg c3] at ht
          obtain ⟨k1, k2⟩ := rdC_fr f _ _ _ (RD.push_ok ok kb) ht
          have g := grw_push R.take R.take.kd
          exact ⟨(f1.trans g.fr3).trans k1, k2.trans g.2.2.1⟩
      · next c2 =>
        rw [if_neg c2] at ht
        split
        · next c3 =>
          rw [if_pos c3] at ht
          obtain ⟨k1, k2⟩ := rdC_fr f _ _ _ (rdFac_ok ok) ht
          have g := (grw_fac R.take).resolve_right (by rw [c3]; decide)
          exact ⟨(f1.trans g.fr3).trans k1, k2.trans g.2.2.1⟩
        · next c3 => rw [if_neg c3] at ht; cases ht
    · next c =>
      rw [if_neg c] at ht
      split
      · next c2 =>
        rw [if_pos c2] at ht
        have okr := RD.rel_ok (s := str R.take.kd) ok
        obtain ⟨k1, k2⟩ := rdC_fr f _ _ _ (RD.push_ok okr kb) ht
        have g : grw R.take _ _ := (grw_relF (str R.take.kd) _ R.take).trans (grw_push (R.take.rel (str R.take.kd)) R.take.kd)
        exact ⟨(f1.trans g.fr3).trans k1, k2.trans g.2.2.1⟩
      · next c2 =>
        rw [if_neg c2] at ht
        have g : grw R.take (R.take.rel 1) 0 := grw_relF 1 _ R.take
        split
        · next c3 =>
          rw [if_pos c3] at ht
          have h2 := RD.rel_ok (s := 1) ok
          have h3 : (R.take.rel 1).wc ≤ 14 := h2.1.2.2.2.2.2.2
          obtain ⟨k1, k2⟩ := rdC_fr f _ _ _ (RD.sWc_ok h2 (n := (R.take.rel 1).wc - 1) (by omega)) ht
          have g2 : fr3 (R.take.rel 1) ((R.take.rel 1).sWc ((R.take.rel 1).wc - 1)) := ⟨rfl, rfl, fun z => z⟩
          exact ⟨((f1.trans g.fr3).trans g2).trans k1, k2.trans g.2.2.1⟩
        · next c3 =>
          rw [if_neg c3] at ht
          split
          · exact ⟨f1.trans g.fr3, g.2.2.1⟩
          · next c4 => rw [if_neg c4] at ht; cases ht
theorem rdCost_fr {R : RD} (h : okR R) (ht : (rdCost R).1 = true) : fr3 R (rdCost R).2 ∧ (rdCost R).2.hc = 1 ∧ R.hc = 0 := by
  have hh : R.hc ≤ 1 := h.1.2.2.2.2.1
  unfold rdCost at ht ⊢
  split
  · next c => rw [if_pos c] at ht; cases ht
  · next c =>
    rw [if_neg c] at ht
    obtain ⟨k1, k2⟩ := rdC_fr _ _ _ _ (RD.beg_ok h) ht
    exact ⟨⟨k1.1, k1.2.1, k1.2.2⟩, k2, by omega⟩
def rdStm (F : Nat) (R : RD) : Bool × RD :=
  if R.kd = 259 then (if (rdEdge R).1 = false then (false, (rdEdge R).2) else rdSemi (rdEdge R).2)
  else if R.kd = 260 then (if (rdAbs R).1 = false then (false, (rdAbs R).2) else rdSemi (rdAbs R).2)
  else if R.kd = 261 then (if (rdJoin R).1 = false then (false, (rdJoin R).2) else rdSemi (rdJoin R).2)
  else if R.kd = 262 then (if (rdCost R).1 = false then (false, (rdCost R).2) else (true, (rdCost R).2.sG ((rdCost R).2.G.sF F)))
  else (false, R.fail (-2))
theorem rdStm_ok {F : Nat} {R : RD} (h : okR R) (hn : 1 ≤ R.G.n) : okR (rdStm F R).2 := by
  unfold rdStm
  split
  · split
    · exact rdEdge_ok h
    · exact rdSemi_ok (rdEdge_ok h)
  · split
    · split
      · exact rdAbs_ok h hn
      · exact rdSemi_ok (rdAbs_ok h hn)
    · split
      · split
        · exact rdJoin_ok h hn
        · exact rdSemi_ok (rdJoin_ok h hn)
      · split
        · split
          · exact rdCost_ok h
          · have k := rdCost_ok h
            exact RD.sG_ok k ⟨k.2.2.1.1, k.2.2.1.2.1, k.2.2.1.2.2.1, k.2.2.1.2.2.2.1, k.2.2.1.2.2.2.2⟩
        · exact RD.fail_ok h _
theorem rdStm_fr {F : Nat} {R : RD} (h : okR R) (hn : 1 ≤ R.G.n) (ht : (rdStm F R).1 = true) : fr3 R (rdStm F R).2 := by
  unfold rdStm at ht ⊢
  split
  · next c =>
    rw [if_pos c] at ht
    split
    · exact (fr5_edge h).1
    · exact ((fr5_edge h).trans (fr5_semi (rdEdge_ok h))).1
  · next c =>
    rw [if_neg c] at ht
    split
    · split
      · exact (fr5_abs h).1
      · exact ((fr5_abs h).trans (fr5_semi (rdAbs_ok h hn))).1
    · next c2 =>
      rw [if_neg c2] at ht
      split
      · split
        · exact (fr5_join h).1
        · exact ((fr5_join h).trans (fr5_semi (rdJoin_ok h hn))).1
      · next c3 =>
        rw [if_neg c3] at ht
        split
        · next c4 =>
          rw [if_pos c4] at ht
          split
          · next c5 => rw [if_pos c5] at ht; cases ht
          · next c5 => exact (rdCost_fr h (bT c5)).1.trans ⟨rfl, rfl, fun z => z⟩
        · next c4 => rw [if_neg c4] at ht; cases ht
/-- the address does not matter where there has been a cost statement -/
theorem rdStm_F {F F2 : Nat} {R : RD} (h : R.hc = 1) : rdStm F R = rdStm F2 R := by
  have e : rdCost R = (false, R.fail (-2)) := by rw [rdCost, if_pos h]
  unfold rdStm
  rw [e]
  rfl
def pS (v : Ev) (h : Hp) (q top : Nat) (R : RD) (x : Bool × RD) : Option Value → Hp → Nat → Prop := fun r h' top' =>
  r = some (.int (nI (Bool.toNat x.1))) ∧ ((R.hc = 0 ∧ x.1 = true ∧ x.2.hc = 1 ∧ h' = rdH v (hp h top (aI v x.2.cl (cpF (sF x.2.cd) (fun _ => 0) x.2.cl))) q x.2 ∧ top' = top + 1) ∨ ((x.1 = true → x.2.hc = R.hc ∧ x.2.cl = R.cl ∧ x.2.cd = R.cd) ∧ h' = rdH v h q x.2 ∧ top' = top))
theorem c_rdStm {v : Ev} {h : Hp} {top q : Nat} {R : RD} (ok : okR R) (hn : 1 ≤ R.G.n) (hk : nxk 4 R) (he : endT R.T) (hq : q + 14 ≤ top) : Cal v mX6_readStatement 5 1 600 [.ref q] (rdH v h q R) top (pS v h q top R (rdStm top R)) noX := by
  have k1 : -128 ≤ R.kd ∧ R.kd ≤ 266 := ok.1.2.1
  refine Cal.ofJ (by decide +kernel) rfl (Nat.le_of_ble_eq_true rfl) fun hz0 => ?_
  refine r_ls [some (.ref q)] rfl ?_
  generalize hX : rdStm top R = X
  unfold rdStm at hX
  refine r_aload_n (pc := 0) (i := 0) (tX6_readStatement.at 0 rfl) rfl rfl ?_
  refine r_get (pc := 1) (tX6_readStatement.at 1 rfl) gf_X6_35 (rdH_0) rfl ?_
  refine r_eq rfl (st2 := [.int (zI R.kd)]) rfl ?_
  have ei : (zI R.kd).toInt = R.kd := zI_toInt ⟨by omega, by omega⟩
  by_cases h1 : R.kd = 259
  · rw [if_pos h1] at hX
    rw [h1]
    refine r_swIn (pc := 4) (off := 32) 36 (tX6_readStatement.at 2 rfl) (by decide) (by decide) (by decide) (by decide) ?_
    refine r_aload_n (pc := 36) (i := 0) (tX6_readStatement.at 3 rfl) rfl rfl ?_
    refine r_callV (M' := mX6_readEdge) (pc := 37) (tX6_readStatement.at 4 rfl) ml_X6_86 rfl mw_X6_readEdge ⟨by decide, by decide⟩ (rdH_0) rfl rfl (c_rdEdge ok hn) rfl rfl (Nat.le_of_ble_eq_true rfl) (Nat.le_of_ble_eq_true rfl) (Nat.le_of_ble_eq_true rfl) ?_
    rintro _ _ _ ⟨rfl, rfl, rfl⟩
    have fe := fr5_edge ok
    have oke := rdEdge_ok ok
    by_cases c : (rdEdge R).1 = false
    · rw [if_pos c] at hX
      rw [c]
      refine r_if_eqN (pc := 40) 54 (tX6_readStatement.at 5 rfl) (by decide) (by decide) (fun _ => ?_) (fun z => absurd rfl z)
      refine r_iconst (pc := 54) (w := nI 0) (tX6_readStatement.at 11 rfl) (by decide) ?_
      refine r_zret (pc := 55) (tX6_readStatement.at 12 rfl) rfl (rfl) (Nat.le_of_ble_eq_true rfl) (Nat.le_of_ble_eq_true rfl) ?_
      rw [← hX]
      exact ⟨rfl, Or.inr ⟨fun z => (by cases z), rfl, rfl⟩⟩
    · rw [if_neg c] at hX
      rw [bT c]
      refine r_if_eqN (pc := 40) 54 (tX6_readStatement.at 5 rfl) (by decide) (by decide) (fun z => absurd z (by decide)) (fun _ => ?_)
      have fs := fe.trans (fr5_semi oke)
      refine r_aload_n (pc := 43) (i := 0) (tX6_readStatement.at 6 rfl) rfl rfl ?_
      refine r_callV (M' := mX6_readSemicolon) (pc := 44) (tX6_readStatement.at 7 rfl) ml_X6_76 rfl mw_X6_readSemicolon ⟨by decide, by decide⟩ (rdH_0) rfl rfl (c_rdSemi oke) rfl rfl (Nat.le_of_ble_eq_true rfl) (Nat.le_of_ble_eq_true rfl) (Nat.le_of_ble_eq_true rfl) ?_
      rintro _ _ _ ⟨rfl, rfl, rfl⟩
      rw [hX] at fs ⊢
      rcases (show X.1 = true ∨ X.1 = false by cases X.1 <;> simp) with e | e
      · rw [e]
        refine r_if_eqN (pc := 47) 54 (tX6_readStatement.at 8 rfl) (by decide) (by decide) (fun z => absurd z (by decide)) (fun _ => ?_)
        refine r_iconst (pc := 50) (w := nI 1) (tX6_readStatement.at 9 rfl) (by decide) ?_
        refine r_goto (pc := 51) 55 (tX6_readStatement.at 10 rfl) (by decide) ?_
        refine r_zret (pc := 55) (tX6_readStatement.at 12 rfl) rfl (rfl) (Nat.le_of_ble_eq_true rfl) (Nat.le_of_ble_eq_true rfl) ?_
        exact ⟨by rw [e]; rfl, Or.inr ⟨fun _ => fs.2, rfl, rfl⟩⟩
      · rw [e]
        refine r_if_eqN (pc := 47) 54 (tX6_readStatement.at 8 rfl) (by decide) (by decide) (fun _ => ?_) (fun z => absurd rfl z)
        refine r_iconst (pc := 54) (w := nI 0) (tX6_readStatement.at 11 rfl) (by decide) ?_
        refine r_zret (pc := 55) (tX6_readStatement.at 12 rfl) rfl (rfl) (Nat.le_of_ble_eq_true rfl) (Nat.le_of_ble_eq_true rfl) ?_
        exact ⟨by rw [e]; rfl, Or.inr ⟨fun _ => fs.2, rfl, rfl⟩⟩
  rw [if_neg h1] at hX
  by_cases h2 : R.kd = 260
  · rw [if_pos h2] at hX
    rw [h2]
    refine r_swIn (pc := 4) (off := 52) 56 (tX6_readStatement.at 2 rfl) (by decide) (by decide) (by decide) (by decide) ?_
    refine r_aload_n (pc := 56) (i := 0) (tX6_readStatement.at 13 rfl) rfl rfl ?_
    refine r_callV (M' := mX6_readAbsorb) (pc := 57) (tX6_readStatement.at 14 rfl) ml_X6_89 rfl mw_X6_readAbsorb ⟨by decide, by decide⟩ (rdH_0) rfl rfl (c_rdAbs ok hn) rfl rfl (Nat.le_of_ble_eq_true rfl) (Nat.le_of_ble_eq_true rfl) (Nat.le_of_ble_eq_true rfl) ?_
    rintro _ _ _ ⟨rfl, rfl, rfl⟩
    have fe := fr5_abs ok
    have oke := rdAbs_ok ok hn
    by_cases c : (rdAbs R).1 = false
    · rw [if_pos c] at hX
      rw [c]
      refine r_if_eqN (pc := 60) 74 (tX6_readStatement.at 15 rfl) (by decide) (by decide) (fun _ => ?_) (fun z => absurd rfl z)
      refine r_iconst (pc := 74) (w := nI 0) (tX6_readStatement.at 21 rfl) (by decide) ?_
      refine r_zret (pc := 75) (tX6_readStatement.at 22 rfl) rfl (rfl) (Nat.le_of_ble_eq_true rfl) (Nat.le_of_ble_eq_true rfl) ?_
      rw [← hX]
      exact ⟨rfl, Or.inr ⟨fun z => (by cases z), rfl, rfl⟩⟩
    · rw [if_neg c] at hX
      rw [bT c]
      refine r_if_eqN (pc := 60) 74 (tX6_readStatement.at 15 rfl) (by decide) (by decide) (fun z => absurd z (by decide)) (fun _ => ?_)
      have fs := fe.trans (fr5_semi oke)
      refine r_aload_n (pc := 63) (i := 0) (tX6_readStatement.at 16 rfl) rfl rfl ?_
      refine r_callV (M' := mX6_readSemicolon) (pc := 64) (tX6_readStatement.at 17 rfl) ml_X6_76 rfl mw_X6_readSemicolon ⟨by decide, by decide⟩ (rdH_0) rfl rfl (c_rdSemi oke) rfl rfl (Nat.le_of_ble_eq_true rfl) (Nat.le_of_ble_eq_true rfl) (Nat.le_of_ble_eq_true rfl) ?_
      rintro _ _ _ ⟨rfl, rfl, rfl⟩
      rw [hX] at fs ⊢
      rcases (show X.1 = true ∨ X.1 = false by cases X.1 <;> simp) with e | e
      · rw [e]
        refine r_if_eqN (pc := 67) 74 (tX6_readStatement.at 18 rfl) (by decide) (by decide) (fun z => absurd z (by decide)) (fun _ => ?_)
        refine r_iconst (pc := 70) (w := nI 1) (tX6_readStatement.at 19 rfl) (by decide) ?_
        refine r_goto (pc := 71) 75 (tX6_readStatement.at 20 rfl) (by decide) ?_
        refine r_zret (pc := 75) (tX6_readStatement.at 22 rfl) rfl (rfl) (Nat.le_of_ble_eq_true rfl) (Nat.le_of_ble_eq_true rfl) ?_
        exact ⟨by rw [e]; rfl, Or.inr ⟨fun _ => fs.2, rfl, rfl⟩⟩
      · rw [e]
        refine r_if_eqN (pc := 67) 74 (tX6_readStatement.at 18 rfl) (by decide) (by decide) (fun _ => ?_) (fun z => absurd rfl z)
        refine r_iconst (pc := 74) (w := nI 0) (tX6_readStatement.at 21 rfl) (by decide) ?_
        refine r_zret (pc := 75) (tX6_readStatement.at 22 rfl) rfl (rfl) (Nat.le_of_ble_eq_true rfl) (Nat.le_of_ble_eq_true rfl) ?_
        exact ⟨by rw [e]; rfl, Or.inr ⟨fun _ => fs.2, rfl, rfl⟩⟩
  rw [if_neg h2] at hX
  by_cases h3 : R.kd = 261
  · rw [if_pos h3] at hX
    rw [h3]
    refine r_swIn (pc := 4) (off := 72) 76 (tX6_readStatement.at 2 rfl) (by decide) (by decide) (by decide) (by decide) ?_
    refine r_aload_n (pc := 76) (i := 0) (tX6_readStatement.at 23 rfl) rfl rfl ?_
    refine r_callV (M' := mX6_readJoin) (pc := 77) (tX6_readStatement.at 24 rfl) ml_X6_92 rfl mw_X6_readJoin ⟨by decide, by decide⟩ (rdH_0) rfl rfl (c_rdJoin ok hn) rfl rfl (Nat.le_of_ble_eq_true rfl) (Nat.le_of_ble_eq_true rfl) (Nat.le_of_ble_eq_true rfl) ?_
    rintro _ _ _ ⟨rfl, rfl, rfl⟩
    have fe := fr5_join ok
    have oke := rdJoin_ok ok hn
    by_cases c : (rdJoin R).1 = false
    · rw [if_pos c] at hX
      rw [c]
      refine r_if_eqN (pc := 80) 94 (tX6_readStatement.at 25 rfl) (by decide) (by decide) (fun _ => ?_) (fun z => absurd rfl z)
      refine r_iconst (pc := 94) (w := nI 0) (tX6_readStatement.at 31 rfl) (by decide) ?_
      refine r_zret (pc := 95) (tX6_readStatement.at 32 rfl) rfl (rfl) (Nat.le_of_ble_eq_true rfl) (Nat.le_of_ble_eq_true rfl) ?_
      rw [← hX]
      exact ⟨rfl, Or.inr ⟨fun z => (by cases z), rfl, rfl⟩⟩
    · rw [if_neg c] at hX
      rw [bT c]
      refine r_if_eqN (pc := 80) 94 (tX6_readStatement.at 25 rfl) (by decide) (by decide) (fun z => absurd z (by decide)) (fun _ => ?_)
      have fs := fe.trans (fr5_semi oke)
      refine r_aload_n (pc := 83) (i := 0) (tX6_readStatement.at 26 rfl) rfl rfl ?_
      refine r_callV (M' := mX6_readSemicolon) (pc := 84) (tX6_readStatement.at 27 rfl) ml_X6_76 rfl mw_X6_readSemicolon ⟨by decide, by decide⟩ (rdH_0) rfl rfl (c_rdSemi oke) rfl rfl (Nat.le_of_ble_eq_true rfl) (Nat.le_of_ble_eq_true rfl) (Nat.le_of_ble_eq_true rfl) ?_
      rintro _ _ _ ⟨rfl, rfl, rfl⟩
      rw [hX] at fs ⊢
      rcases (show X.1 = true ∨ X.1 = false by cases X.1 <;> simp) with e | e
      · rw [e]
        refine r_if_eqN (pc := 87) 94 (tX6_readStatement.at 28 rfl) (by decide) (by decide) (fun z => absurd z (by decide)) (fun _ => ?_)
        refine r_iconst (pc := 90) (w := nI 1) (tX6_readStatement.at 29 rfl) (by decide) ?_
        refine r_goto (pc := 91) 95 (tX6_readStatement.at 30 rfl) (by decide) ?_
        refine r_zret (pc := 95) (tX6_readStatement.at 32 rfl) rfl (rfl) (Nat.le_of_ble_eq_true rfl) (Nat.le_of_ble_eq_true rfl) ?_
        exact ⟨by rw [e]; rfl, Or.inr ⟨fun _ => fs.2, rfl, rfl⟩⟩
      · rw [e]
        refine r_if_eqN (pc := 87) 94 (tX6_readStatement.at 28 rfl) (by decide) (by decide) (fun _ => ?_) (fun z => absurd rfl z)
        refine r_iconst (pc := 94) (w := nI 0) (tX6_readStatement.at 31 rfl) (by decide) ?_
        refine r_zret (pc := 95) (tX6_readStatement.at 32 rfl) rfl (rfl) (Nat.le_of_ble_eq_true rfl) (Nat.le_of_ble_eq_true rfl) ?_
        exact ⟨by rw [e]; rfl, Or.inr ⟨fun _ => fs.2, rfl, rfl⟩⟩
  rw [if_neg h3] at hX
  by_cases h4 : R.kd = 262
  · rw [if_pos h4] at hX
    rw [h4]
    refine r_swIn (pc := 4) (off := 92) 96 (tX6_readStatement.at 2 rfl) (by decide) (by decide) (by decide) (by decide) ?_
    refine r_aload_n (pc := 96) (i := 0) (tX6_readStatement.at 33 rfl) rfl rfl ?_
    refine r_callV (M' := mX6_readCost) (pc := 97) (tX6_readStatement.at 34 rfl) ml_X6_95 rfl mw_X6_readCost ⟨by decide, by decide⟩ rdH_0 rfl rfl (c_rdCost ok hk he hq) rfl rfl (Nat.le_of_ble_eq_true rfl) (Nat.le_of_ble_eq_true rfl) (Nat.le_of_ble_eq_true rfl) ?_
    rintro _ _ _ (⟨c, rfl, rfl, rfl⟩ | ⟨c, rfl, rfl, rfl⟩)
    · rw [if_neg (by rw [c]; decide)] at hX
      obtain ⟨-, g2, g3⟩ := rdCost_fr ok c
      refine r_zret (pc := 100) (tX6_readStatement.at 35 rfl) rfl (rfl) (Nat.le_of_ble_eq_true rfl) (Nat.le_of_ble_eq_true rfl) ?_
      rw [← hX]
      exact ⟨rfl, Or.inl ⟨g3, rfl, g2, rfl, rfl⟩⟩
    · rw [if_pos c] at hX
      refine r_zret (pc := 100) (tX6_readStatement.at 35 rfl) rfl (rfl) (Nat.le_of_ble_eq_true rfl) (Nat.le_of_ble_eq_true rfl) ?_
      rw [← hX]
      exact ⟨rfl, Or.inr ⟨fun z => (by cases z), rfl, rfl⟩⟩
  rw [if_neg h4] at hX
  refine r_swOut (pc := 4) 101 (tX6_readStatement.at 2 rfl) (by rw [ei]; omega) (by decide) ?_
  refine r_aload_n (pc := 101) (i := 0) (tX6_readStatement.at 36 rfl) rfl rfl ?_
  refine r_bipush (pc := 102) (w := zI (-2)) (tX6_readStatement.at 37 rfl) (by decide) ?_
  refine r_callV (M' := mX6_fail) (pc := 104) (tX6_readStatement.at 38 rfl) ml_X6_64 rfl mw_X6_fail ⟨by decide, by decide⟩ (rdH_0) rfl rfl (c_fail (c := -2)) rfl rfl (Nat.le_of_ble_eq_true rfl) (Nat.le_of_ble_eq_true rfl) (Nat.le_of_ble_eq_true rfl) ?_
  rintro _ _ _ ⟨rfl, rfl, rfl⟩
  refine r_zret (pc := 107) (tX6_readStatement.at 39 rfl) rfl (rfl) (Nat.le_of_ble_eq_true rfl) (Nat.le_of_ble_eq_true rfl) ?_
  rw [← hX]
  exact ⟨rfl, Or.inr ⟨fun z => (by cases z), rfl, rfl⟩⟩

