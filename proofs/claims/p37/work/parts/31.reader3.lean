/-! ===== Reader: absorb, join, the cost statement ===== -/
def rdAbs (R : RD) : Bool × RD :=
  if (rdVtx R).1 = false then (false, (rdVtx R).2)
  else if R.G.a.testBit (rdVtx R).2.vl = true then (false, (rdVtx R).2.fail (-4))
  else (true, (rdVtx R).2.sG (R.G.sc R.G.n R.G.e (R.G.a ||| 2 ^ (rdVtx R).2.vl) R.G.b))
theorem okG.setA {G : GT} (h : okG G) {a : Nat} (ha : a < 64) : okG (G.sc G.n G.e a G.b) := ⟨h.1, h.2.1, ha, h.2.2.2⟩
theorem p2_64 {x : Nat} (h : x < 6) : 2 ^ x < 64 := Nat.lt_of_lt_of_le (Nat.pow_lt_pow_right (by omega) h) (by decide)
theorem rdAbs_ok {R : RD} (h : okR R) (hn : 1 ≤ R.G.n) : okR (rdAbs R).2 := by
  have h1 : okR (rdVtx R).2 := rdNum_ok h
  have hn6 := h.2.2.1.1
  unfold rdAbs
  split
  · exact h1
  · next c =>
    obtain ⟨-, g2, -⟩ := rdVtx_t (bT c) hn
    split
    · exact RD.fail_ok h1 _
    · exact RD.sG_ok h1 (okG.setA h.2.2.1 (bs_or_lt (n := 6) h.2.2.1.2.2.1 (p2_64 (by omega))))
theorem c_rdAbs {v : Ev} {h : Hp} {top q : Nat} {R : RD} (ok : okR R) (hn : 1 ≤ R.G.n) : Cal v mX6_readAbsorb 4 0 0 [.ref q] (rdH v h q R) top (pB v h q top (rdAbs R)) noX := by
  have h1 : okR (rdVtx R).2 := rdNum_ok ok
  have hn6 : R.G.n ≤ 6 := ok.2.2.1.1
  have ha : R.G.a < 64 := ok.2.2.1.2.2.1
  refine Cal.ofJ (by decide +kernel) rfl (Nat.le_of_ble_eq_true rfl) fun hz0 => ?_
  refine r_ls [some (.ref q)] rfl ?_
  refine r_aload_n (pc := 0) (i := 0) (tX6_readAbsorb.at 0 rfl) rfl rfl ?_
  refine r_callV (M' := mX6_readVertex) (pc := 1) (tX6_readAbsorb.at 1 rfl) ml_X6_98 rfl mw_X6_readVertex ⟨by decide, by decide⟩ (rdH_0) rfl rfl (c_rdVtx ok hn) rfl rfl (Nat.le_of_ble_eq_true rfl) (Nat.le_of_ble_eq_true rfl) (Nat.le_of_ble_eq_true rfl) ?_
  rintro _ _ _ ⟨rfl, rfl, rfl⟩
  by_cases c1 : (rdVtx R).1 = false
  · rw [rdAbs, if_pos c1]
    rw [c1]
    refine r_if_neN (pc := 4) 9 (tX6_readAbsorb.at 2 rfl) (by decide) (by decide) (fun z => absurd rfl z) (fun _ => ?_)
    refine r_iconst (pc := 7) (w := nI 0) (tX6_readAbsorb.at 3 rfl) (by decide) ?_
    refine r_zret (pc := 8) (tX6_readAbsorb.at 4 rfl) rfl (rfl) (Nat.le_of_ble_eq_true rfl) (Nat.le_of_ble_eq_true rfl) ?_
    exact ⟨rfl, rfl, rfl⟩
  have d1 := bT c1
  obtain ⟨-, e2, e3⟩ := rdVtx_t d1 hn
  rw [rdAbs, if_neg c1]
  rw [d1]
  refine r_if_neN (pc := 4) 9 (tX6_readAbsorb.at 2 rfl) (by decide) (by decide) (fun _ => ?_) (fun z => absurd z (by decide))
  generalize hR2 : (rdVtx R).2 = R2 at h1 e2 e3 ⊢
  refine r_aload_n (pc := 9) (i := 0) (tX6_readAbsorb.at 5 rfl) rfl rfl ?_
  refine r_get (pc := 10) (tX6_readAbsorb.at 6 rfl) gf_X6_21 (rdH_0) rfl ?_
  refine r_aload_n (pc := 13) (i := 0) (tX6_readAbsorb.at 7 rfl) rfl rfl ?_
  refine r_get (pc := 14) (tX6_readAbsorb.at 8 rfl) gf_X6_41 (rdH_0) rfl ?_
  refine r_callV (M' := mX3_isAbsorbing) (pc := 17) (tX6_readAbsorb.at 9 rfl) ml_X6_109 rfl mw_X3_isAbsorbing ⟨by decide, by decide⟩ (rdH_G.1) rfl rfl (c_isAbs rdH_G (by rw [e3]; exact ha) (y := R2.vl) (by omega)) rfl rfl (Nat.le_of_ble_eq_true rfl) (Nat.le_of_ble_eq_true rfl) (Nat.le_of_ble_eq_true rfl) ?_
  rintro _ _ _ ⟨rfl, rfl, rfl⟩
  rw [e3]
  by_cases c2 : R.G.a.testBit R2.vl = true
  · rw [if_pos c2, c2]
    refine r_if_eqN (pc := 20) 30 (tX6_readAbsorb.at 10 rfl) (by decide) (by decide) (fun z => absurd z (by decide)) (fun _ => ?_)
    refine r_aload_n (pc := 23) (i := 0) (tX6_readAbsorb.at 11 rfl) rfl rfl ?_
    refine r_bipush (pc := 24) (w := zI (-4)) (tX6_readAbsorb.at 12 rfl) (by decide) ?_
    refine r_callV (M' := mX6_fail) (pc := 26) (tX6_readAbsorb.at 13 rfl) ml_X6_64 rfl mw_X6_fail ⟨by decide, by decide⟩ (rdH_0) rfl rfl (c_fail (c := -4)) rfl rfl (Nat.le_of_ble_eq_true rfl) (Nat.le_of_ble_eq_true rfl) (Nat.le_of_ble_eq_true rfl) ?_
    rintro _ _ _ ⟨rfl, rfl, rfl⟩
    refine r_zret (pc := 29) (tX6_readAbsorb.at 14 rfl) rfl (rfl) (Nat.le_of_ble_eq_true rfl) (Nat.le_of_ble_eq_true rfl) ?_
    exact ⟨rfl, rfl, rfl⟩
  · have c3 : R.G.a.testBit R2.vl = false := by simpa using c2
    rw [if_neg c2, c3]
    refine r_if_eqN (pc := 20) 30 (tX6_readAbsorb.at 10 rfl) (by decide) (by decide) (fun _ => ?_) (fun z => absurd rfl z)
    refine r_aload_n (pc := 30) (i := 0) (tX6_readAbsorb.at 15 rfl) rfl rfl ?_
    refine r_get (pc := 31) (tX6_readAbsorb.at 16 rfl) gf_X6_21 (rdH_0) rfl ?_
    refine r_dup (pc := 34) (tX6_readAbsorb.at 17 rfl) rfl ?_
    refine r_get (pc := 35) (tX6_readAbsorb.at 18 rfl) gf_X6_112 (rdH_G.1) rfl ?_
    rw [e3]
    refine r_iconst (pc := 38) (w := nI 1) (tX6_readAbsorb.at 19 rfl) (by decide) ?_
    refine r_aload_n (pc := 39) (i := 0) (tX6_readAbsorb.at 20 rfl) rfl rfl ?_
    refine r_get (pc := 40) (tX6_readAbsorb.at 21 rfl) gf_X6_41 (rdH_0) rfl ?_
    refine r_ishl (pc := 43) (tX6_readAbsorb.at 22 rfl) ?_
    rw [show R2.1.2.1.2.2 = R2.vl from rfl, bs_one R2.vl (by omega)]
    refine r_ior (pc := 44) (tX6_readAbsorb.at 23 rfl) ?_
    rw [bs_or _ ha _ (p2_64 (show R2.vl < 6 by omega))]
    refine r_put (pc := 45) (tX6_readAbsorb.at 24 rfl) pf_X6_112 (rdH_G.1) (Nat.le_of_ble_eq_true rfl) (rfl) (rfl) ?_
    refine r_eq (h2 := rdH v h q (R2.sG (R.G.sc R.G.n R.G.e (R.G.a ||| 2 ^ R2.vl) R.G.b))) ?_ rfl ?_
    · have k := gH_p0 (v := v) (h := rdH v h q R2) (g := q + 6) R2.G R2.G.n R2.G.e (R.G.a ||| 2 ^ R2.vl) R2.G.b
      rw [rdH_self, rdH_pG, e3] at k
      rw [e3]
      exact k
    · refine r_iconst (pc := 48) (w := nI 1) (tX6_readAbsorb.at 25 rfl) (by decide) ?_
      refine r_zret (pc := 49) (tX6_readAbsorb.at 26 rfl) rfl (rfl) (Nat.le_of_ble_eq_true rfl) (Nat.le_of_ble_eq_true rfl) ?_
      exact ⟨rfl, rfl, rfl⟩
def rdJoin (R : RD) : Bool × RD :=
  if (rdVtx R).1 = false then (false, (rdVtx R).2)
  else if (rdVtx (rdVtx R).2).1 = false then (false, (rdVtx (rdVtx R).2).2)
  else (true, (rdVtx (rdVtx R).2).2.sG (R.G.unite (rdVtx R).2.vl (rdVtx (rdVtx R).2).2.vl))
theorem rdJoin_ok {R : RD} (h : okR R) (hn : 1 ≤ R.G.n) : okR (rdJoin R).2 := by
  have h1 : okR (rdVtx R).2 := rdNum_ok h
  have h2 : okR (rdVtx (rdVtx R).2).2 := rdNum_ok h1
  have hn6 := h.2.2.1.1
  unfold rdJoin
  split
  · exact h1
  · next c =>
    obtain ⟨-, g2, -⟩ := rdVtx_t (bT c) hn
    split
    · exact h2
    · exact RD.sG_ok h2 (okG.unite h.2.2.1 (by omega))
theorem c_rdJoin {v : Ev} {h : Hp} {top q : Nat} {R : RD} (ok : okR R) (hn : 1 ≤ R.G.n) : Cal v mX6_readJoin 4 0 0 [.ref q] (rdH v h q R) top (pB v h q top (rdJoin R)) noX := by
  have h1 : okR (rdVtx R).2 := rdNum_ok ok
  have h2 : okR (rdVtx (rdVtx R).2).2 := rdNum_ok h1
  have hn6 : R.G.n ≤ 6 := ok.2.2.1.1
  refine Cal.ofJ (by decide +kernel) rfl (Nat.le_of_ble_eq_true rfl) fun hz0 => ?_
  refine r_ls [some (.ref q), none] rfl ?_
  refine r_aload_n (pc := 0) (i := 0) (tX6_readJoin.at 0 rfl) rfl rfl ?_
  refine r_callV (M' := mX6_readVertex) (pc := 1) (tX6_readJoin.at 1 rfl) ml_X6_98 rfl mw_X6_readVertex ⟨by decide, by decide⟩ (rdH_0) rfl rfl (c_rdVtx ok hn) rfl rfl (Nat.le_of_ble_eq_true rfl) (Nat.le_of_ble_eq_true rfl) (Nat.le_of_ble_eq_true rfl) ?_
  rintro _ _ _ ⟨rfl, rfl, rfl⟩
  by_cases c1 : (rdVtx R).1 = false
  · rw [rdJoin, if_pos c1]
    rw [c1]
    refine r_if_neN (pc := 4) 9 (tX6_readJoin.at 2 rfl) (by decide) (by decide) (fun z => absurd rfl z) (fun _ => ?_)
    refine r_iconst (pc := 7) (w := nI 0) (tX6_readJoin.at 3 rfl) (by decide) ?_
    refine r_zret (pc := 8) (tX6_readJoin.at 4 rfl) rfl (rfl) (Nat.le_of_ble_eq_true rfl) (Nat.le_of_ble_eq_true rfl) ?_
    exact ⟨rfl, rfl, rfl⟩
  have d1 := bT c1
  obtain ⟨-, e2, e3⟩ := rdVtx_t d1 hn
  rw [rdJoin, if_neg c1]
  rw [d1]
  refine r_if_neN (pc := 4) 9 (tX6_readJoin.at 2 rfl) (by decide) (by decide) (fun _ => ?_) (fun z => absurd z (by decide))
  refine r_aload_n (pc := 9) (i := 0) (tX6_readJoin.at 5 rfl) rfl rfl ?_
  refine r_get (pc := 10) (tX6_readJoin.at 6 rfl) gf_X6_41 (rdH_0) rfl ?_
  refine r_istore_n (pc := 13) (i := 1) (tX6_readJoin.at 7 rfl) rfl (by decide) ?_
  refine r_aload_n (pc := 14) (i := 0) (tX6_readJoin.at 8 rfl) rfl rfl ?_
  refine r_callV (M' := mX6_readVertex) (pc := 15) (tX6_readJoin.at 9 rfl) ml_X6_98 rfl mw_X6_readVertex ⟨by decide, by decide⟩ (rdH_0) rfl rfl (c_rdVtx h1 (by rw [e3]; exact hn)) rfl rfl (Nat.le_of_ble_eq_true rfl) (Nat.le_of_ble_eq_true rfl) (Nat.le_of_ble_eq_true rfl) ?_
  rintro _ _ _ ⟨rfl, rfl, rfl⟩
  rw [show ((rdVtx R).2.1.2.1.2.2) = (rdVtx R).2.vl from rfl]
  by_cases c2 : (rdVtx (rdVtx R).2).1 = false
  · rw [if_pos c2]
    rw [c2]
    refine r_if_neN (pc := 18) 23 (tX6_readJoin.at 10 rfl) (by decide) (by decide) (fun z => absurd rfl z) (fun _ => ?_)
    refine r_iconst (pc := 21) (w := nI 0) (tX6_readJoin.at 11 rfl) (by decide) ?_
    refine r_zret (pc := 22) (tX6_readJoin.at 12 rfl) rfl (rfl) (Nat.le_of_ble_eq_true rfl) (Nat.le_of_ble_eq_true rfl) ?_
    exact ⟨rfl, rfl, rfl⟩
  have d2 := bT c2
  obtain ⟨-, f2, f3⟩ := rdVtx_t d2 (by rw [e3]; exact hn)
  rw [if_neg c2]
  rw [d2]
  refine r_if_neN (pc := 18) 23 (tX6_readJoin.at 10 rfl) (by decide) (by decide) (fun _ => ?_) (fun z => absurd z (by decide))
  have hG2 : (rdVtx (rdVtx R).2).2.G = R.G := f3.trans e3
  rw [e3] at f2
  generalize (rdVtx R).2.vl = x at e2 ⊢
  generalize hR2 : (rdVtx (rdVtx R).2).2 = R2 at h2 f2 hG2 ⊢
  have k := c_unite (v := v) (h := rdH v h q R2) (top := top) (g := q + 6) (G := R2.G) (a := x) (b := R2.vl) h2.2.2.1.1 (fun k hk => by have := h2.2.2.1.2.2.2.1 k hk; omega) (by omega) (by omega)
  rw [rdH_self, rdH_pG, hG2] at k
  refine r_aload_n (pc := 23) (i := 0) (tX6_readJoin.at 13 rfl) rfl rfl ?_
  refine r_get (pc := 24) (tX6_readJoin.at 14 rfl) gf_X6_21 (rdH_0) rfl ?_
  refine r_iload_n (pc := 27) (i := 1) (tX6_readJoin.at 15 rfl) rfl rfl ?_
  refine r_aload_n (pc := 28) (i := 0) (tX6_readJoin.at 16 rfl) rfl rfl ?_
  refine r_get (pc := 29) (tX6_readJoin.at 17 rfl) gf_X6_41 (rdH_0) rfl ?_
  refine r_callV (M' := mX3_uniteBlocks) (pc := 32) (tX6_readJoin.at 18 rfl) ml_X6_115 rfl mw_X3_uniteBlocks ⟨by decide, by decide⟩ (rdH_G.1) rfl rfl (k) rfl rfl (Nat.le_of_ble_eq_true rfl) (Nat.le_of_ble_eq_true rfl) (Nat.le_of_ble_eq_true rfl) ?_
  rintro _ _ _ ⟨rfl, rfl, rfl⟩
  refine r_iconst (pc := 35) (w := nI 1) (tX6_readJoin.at 19 rfl) (by decide) ?_
  refine r_zret (pc := 36) (tX6_readJoin.at 20 rfl) rfl (rfl) (Nat.le_of_ble_eq_true rfl) (Nat.le_of_ble_eq_true rfl) ?_
  exact ⟨rfl, rfl, rfl⟩
/-- Arrays.copyOf, made shorter -/
theorem c_copyOf {v : Ev} {h : Hp} {top a n N : Nat} {f : Nat → Int32} (ha : h a = some (aI v N f)) (hat : a < top) (hn : n < N) (hN : N ≤ 600) : Cal v mJ7_copyOf_59c91 2 1 600 [.ref a, .int (nI n)] h top (fun r h' top' => r = some (.ref top) ∧ h' = hp h top (aI v n (cpF f (fun _ => 0) n)) ∧ top' = top + 1) noX := by
  refine Cal.ofJ (by decide +kernel) rfl (Nat.le_of_ble_eq_true rfl) fun hz0 => ?_
  refine r_ls [some (.ref a), some (.int (nI n)), none] rfl ?_
  refine r_iload_n (pc := 0) (i := 1) (tJ7_copyOf_59c91.at 0 rfl) rfl rfl ?_
  refine r_aload_n (pc := 1) (i := 0) (tJ7_copyOf_59c91.at 1 rfl) rfl rfl ?_
  refine r_alenI (pc := 2) (tJ7_copyOf_59c91.at 2 rfl) (ha) ?_
  refine r_icmp_neN (pc := 3) 14 (tJ7_copyOf_59c91.at 3 rfl) (by decide) (by omega) (by omega) (fun _ => ?_) (fun c => by omega)
  refine r_iload_n (pc := 14) (i := 1) (tJ7_copyOf_59c91.at 8 rfl) rfl rfl ?_
  refine r_newaI (pc := 15) n (tJ7_copyOf_59c91.at 9 rfl) rfl (by omega) ac_int (by show 0 + 1 ≤ 1; omega) (by show 0 + n ≤ 600; omega) (fun fr => ?_)
  refine r_widen (c2 := 1) (s2 := 600) (by omega) (by omega) ?_
  refine r_astore_n (pc := 17) (i := 2) (tJ7_copyOf_59c91.at 10 rfl) rfl (by decide) ?_
  refine r_aload_n (pc := 18) (i := 0) (tJ7_copyOf_59c91.at 11 rfl) rfl rfl ?_
  refine r_iconst (pc := 19) (w := nI 0) (tJ7_copyOf_59c91.at 12 rfl) (by decide) ?_
  refine r_aload_n (pc := 20) (i := 2) (tJ7_copyOf_59c91.at 13 rfl) rfl rfl ?_
  refine r_iconst (pc := 21) (w := nI 0) (tJ7_copyOf_59c91.at 14 rfl) (by decide) ?_
  refine r_aload_n (pc := 22) (i := 0) (tJ7_copyOf_59c91.at 15 rfl) rfl rfl ?_
  refine r_alenI (pc := 23) (tJ7_copyOf_59c91.at 16 rfl) ((hp_ne _ _ (by omega)).trans ha) ?_
  refine r_iload_n (pc := 24) (i := 1) (tJ7_copyOf_59c91.at 17 rfl) rfl rfl ?_
  first | refine r_mminN (pc := 25) (tJ7_copyOf_59c91.at 18 rfl) ml_J7_304 mw_min_s mw_math mw_min_c (Nat.le_of_ble_eq_true rfl) (Nat.le_of_ble_eq_true rfl) (Nat.le_of_ble_eq_true rfl) (Nat.le_of_ble_eq_true rfl) (by omega) (by omega) ?_ | refine r_mminZ (pc := 25) (tJ7_copyOf_59c91.at 18 rfl) ml_J7_304 mw_min_s mw_math mw_min_c (Nat.le_of_ble_eq_true rfl) (Nat.le_of_ble_eq_true rfl) (Nat.le_of_ble_eq_true rfl) (Nat.le_of_ble_eq_true rfl) ⟨by omega, by omega⟩ ⟨by omega, by omega⟩ ?_ | refine r_mmin (pc := 25) (tJ7_copyOf_59c91.at 18 rfl) ml_J7_304 mw_min_s mw_math mw_min_c (Nat.le_of_ble_eq_true rfl) (Nat.le_of_ble_eq_true rfl) (Nat.le_of_ble_eq_true rfl) (Nat.le_of_ble_eq_true rfl) ?_
  rw [show min N n = n by omega]
  refine r_acopyI (pc := 28) n (tJ7_copyOf_59c91.at 19 rfl) ml_J7_150 ((hp_ne _ _ (by omega)).trans ha) (hp_eq _ _ _) (by omega) rfl rfl rfl (by omega) (Nat.le_refl _) (by omega) (by omega) (Nat.le_of_ble_eq_true rfl) (Nat.le_of_ble_eq_true rfl) ?_
  rw [hp_hp]
  refine r_aload_n (pc := 31) (i := 2) (tJ7_copyOf_59c91.at 20 rfl) rfl rfl ?_
  refine r_aret (pc := 32) (tJ7_copyOf_59c91.at 21 rfl) rfl (Or.inr ⟨_, rfl⟩) (Nat.le_of_ble_eq_true rfl) (Nat.le_of_ble_eq_true rfl) ?_
  exact ⟨rfl, rfl, rfl⟩

