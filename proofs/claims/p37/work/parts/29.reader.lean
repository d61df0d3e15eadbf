/-! ===== Reader: its state, the small methods ===== -/
/-- ((error, errorAt, next), (kind, start, value), (hasCost, codeLength, waitingCount)) -/
abbrev RS : Type := (Int × Int × Nat) × (Int × Nat × Nat) × (Nat × Nat × Nat)
/-- scalars, tokens, draft, code, waiting -/
abbrev RD : Type := RS × TK × GT × (Nat → Int) × (Nat → Int)
def RD.err (R : RD) : Int := R.1.1.1
def RD.eat (R : RD) : Int := R.1.1.2.1
def RD.nx (R : RD) : Nat := R.1.1.2.2
def RD.kd (R : RD) : Int := R.1.2.1.1
def RD.st (R : RD) : Nat := R.1.2.1.2.1
def RD.vl (R : RD) : Nat := R.1.2.1.2.2
def RD.hc (R : RD) : Nat := R.1.2.2.1
def RD.cl (R : RD) : Nat := R.1.2.2.2.1
def RD.wc (R : RD) : Nat := R.1.2.2.2.2
def RD.T (R : RD) : TK := R.2.1
def RD.G (R : RD) : GT := R.2.2.1
def RD.cd (R : RD) : Nat → Int := R.2.2.2.1
def RD.wt (R : RD) : Nat → Int := R.2.2.2.2
def rdE (q : Nat) (S : RS) : va_E := ob 6 [.ref (q + 1), .ref (q + 6), .int (zI S.1.1), .int (zI S.1.2.1), .int (nI S.1.2.2), .int (zI S.2.1.1), .int (nI S.2.1.2.1), .int (nI S.2.1.2.2), .int (nI S.2.2.1), .ref (q + 12), .int (nI S.2.2.2.1), .ref (q + 13), .int (nI S.2.2.2.2)]
def rdH (v : Ev) (h : Hp) (q : Nat) (R : RD) : Hp := hp (hp (hp (gH v (tkH v h (q + 1) R.T) (q + 6) R.G) q (rdE q R.1)) (q + 12) (aI v 600 (sF R.cd))) (q + 13) (aI v 14 (sF R.wt))
section
variable {v : Ev} {h : Hp} {q : Nat} {R : RD}
theorem rdH_0 : rdH v h q R q = some (rdE q R.1) := by unfold rdH; rw [hp_ne _ _ (by omega), hp_ne _ _ (by omega), hp_eq]
theorem rdH_12 : rdH v h q R (q + 12) = some (aI v 600 (sF R.cd)) := by unfold rdH; rw [hp_ne _ _ (by omega), hp_eq]
theorem rdH_13 : rdH v h q R (q + 13) = some (aI v 14 (sF R.wt)) := hp_eq _ _ _
theorem rdH_G : isG v (rdH v h q R) (q + 6) R.G := (((gH_is v _ (q + 6) R.G).put (by omega)).put (by omega)).put (by omega)
theorem rdH_T {k : Nat} (hk : k < 5) : rdH v h q R (q + 1 + k) = tkH v h (q + 1) R.T (q + 1 + k) := by unfold rdH; rw [hp_ne _ _ (by omega), hp_ne _ _ (by omega), hp_ne _ _ (by omega), gH_out _ _ _ _ (by omega)]
theorem rdH_out {a : Nat} (ha : a < q ∨ q + 14 ≤ a) : rdH v h q R a = h a := by unfold rdH; rw [hp_ne _ _ (by omega), hp_ne _ _ (by omega), hp_ne _ _ (by omega), gH_out _ _ _ _ (by omega), tkH_out (by omega)]
theorem rdH_ext {h' : Hp} (h0 : h' q = some (rdE q R.1)) (h1 : ∀ k, k < 5 → h' (q + 1 + k) = tkH v h (q + 1) R.T (q + 1 + k)) (h2 : isG v h' (q + 6) R.G) (h3 : h' (q + 12) = some (aI v 600 (sF R.cd))) (h4 : h' (q + 13) = some (aI v 14 (sF R.wt))) (ho : ∀ a, (a < q ∨ q + 14 ≤ a) → h' a = h a) : h' = rdH v h q R := by
  have e := gH_ext (h := rdH v h q R) h2 (fun a ha => by
    by_cases hq : q ≤ a ∧ a < q + 14
    · rcases (show a = q ∨ (q + 1 ≤ a ∧ a < q + 6) ∨ a = q + 12 ∨ a = q + 13 by omega) with e | e | e | e
      · rw [e, h0, rdH_0]
      · obtain ⟨k, rfl⟩ : ∃ k, a = q + 1 + k := ⟨a - (q + 1), by omega⟩
        rw [h1 k (by omega), rdH_T (by omega)]
      · rw [e, h3, rdH_12]
      · rw [e, h4, rdH_13]
    · rw [ho a (by omega), rdH_out (by omega)])
  rw [e]
  exact gH_self rdH_G
theorem rdH_p0 (S : RS) : hp (rdH v h q R) q (rdE q S) = rdH v h q (S, R.2) :=
  rdH_ext (hp_eq _ _ _) (fun k hk => (hp_ne _ _ (by omega)).trans (rdH_T hk)) (rdH_G.put (by omega)) ((hp_ne _ _ (by omega)).trans rdH_12) ((hp_ne _ _ (by omega)).trans rdH_13) (fun a ha => (hp_ne _ _ (by omega)).trans (rdH_out ha))
theorem rdH_p12 (c : Nat → Int) : hp (rdH v h q R) (q + 12) (aI v 600 (sF c)) = rdH v h q (R.1, R.T, R.G, c, R.wt) :=
  rdH_ext ((hp_ne _ _ (by omega)).trans rdH_0) (fun k hk => (hp_ne _ _ (by omega)).trans (rdH_T hk)) (rdH_G.put (by omega)) (hp_eq _ _ _) ((hp_ne _ _ (by omega)).trans rdH_13) (fun a ha => (hp_ne _ _ (by omega)).trans (rdH_out ha))
theorem rdH_p13 (c : Nat → Int) : hp (rdH v h q R) (q + 13) (aI v 14 (sF c)) = rdH v h q (R.1, R.T, R.G, R.cd, c) :=
  rdH_ext ((hp_ne _ _ (by omega)).trans rdH_0) (fun k hk => (hp_ne _ _ (by omega)).trans (rdH_T hk)) (rdH_G.put (by omega)) ((hp_ne _ _ (by omega)).trans rdH_12) (hp_eq _ _ _) (fun a ha => (hp_ne _ _ (by omega)).trans (rdH_out ha))
theorem rdH_pG (G : GT) : gH v (rdH v h q R) (q + 6) G = rdH v h q (R.1, R.T, G, R.cd, R.wt) :=
  rdH_ext ((gH_out _ _ _ _ (by omega)).trans rdH_0) (fun k hk => (gH_out _ _ _ _ (by omega)).trans (rdH_T hk)) (gH_is _ _ _ _) ((gH_out _ _ _ _ (by omega)).trans rdH_12) ((gH_out _ _ _ _ (by omega)).trans rdH_13) (fun a ha => (gH_out _ _ _ _ (by omega)).trans (rdH_out ha))
theorem rdH_put {a : Nat} {e : va_E} (ha : a < q ∨ q + 14 ≤ a) : hp (rdH v h q R) a e = rdH v (hp h a e) q R :=
  rdH_ext ((hp_ne _ _ (by omega)).trans rdH_0) (fun k hk => (hp_ne _ _ (by omega)).trans ((rdH_T hk).trans (by rw [← tkH_put (by omega), hp_ne _ _ (by omega)]))) (rdH_G.put (by omega)) ((hp_ne _ _ (by omega)).trans rdH_12) ((hp_ne _ _ (by omega)).trans rdH_13) (fun b hb => by
    by_cases e : b = a
    · rw [e, hp_eq, hp_eq]
    · rw [hp_ne _ _ e, hp_ne _ _ e, rdH_out hb])
theorem rdH_t0 : rdH v h q R (q + 1) = some (tkE (q + 1) R.T.1.2 R.T.2.2) := (rdH_T (k := 0) (by omega)).trans tkH_0
theorem rdH_t2 : rdH v h q R (q + 1 + 2) = some (aI v 601 (sF R.T.2.1.1)) := (rdH_T (k := 2) (by omega)).trans tkH_2
theorem rdH_t3 : rdH v h q R (q + 1 + 3) = some (aI v 601 (iF R.T.2.1.2.1)) := (rdH_T (k := 3) (by omega)).trans tkH_3
theorem rdH_t4 : rdH v h q R (q + 1 + 4) = some (aI v 601 (iF R.T.2.1.2.2)) := (rdH_T (k := 4) (by omega)).trans tkH_4
end
def okT (t : TK) : Prop := 1 ≤ t.2.2 ∧ t.2.2 ≤ 601 ∧ ∀ i, (-128 ≤ t.2.1.1 i ∧ t.2.1.1 i ≤ 266) ∧ t.2.1.2.1 i ≤ 600 ∧ t.2.1.2.2 i ≤ 10000
def okG (G : GT) : Prop := G.n ≤ 6 ∧ G.e ≤ 15 ∧ G.a < 64 ∧ (∀ k, k < 6 → G.B k ≤ 6) ∧ ∀ k, k < 36 → G.W k ≤ 9
def okS (S : RS) (ct : Nat) : Prop := S.1.2.2 < ct ∧ (-128 ≤ S.2.1.1 ∧ S.2.1.1 ≤ 266) ∧ S.2.1.2.1 ≤ 600 ∧ S.2.1.2.2 ≤ 10000 ∧ S.2.2.1 ≤ 1 ∧ S.2.2.2.1 ≤ 600 ∧ S.2.2.2.2 ≤ 14
def okR (R : RD) : Prop := okS R.1 R.T.2.2 ∧ okT R.T ∧ okG R.G ∧ (∀ k, -7 ≤ R.cd k ∧ R.cd k ≤ 10000) ∧ ∀ k, -128 ≤ R.wt k ∧ R.wt k ≤ 266
def RD.take (R : RD) : RD := (((R.err, R.eat, if R.nx < R.T.2.2 - 1 then R.nx + 1 else R.nx), (R.T.2.1.1 R.nx, R.T.2.1.2.1 R.nx, R.T.2.1.2.2 R.nx), (R.hc, R.cl, R.wc)), R.2)
def RD.fail (R : RD) (c : Int) : RD := (((c, (R.st : Int), R.nx), R.1.2), R.2)
theorem RD.take_ok {R : RD} (h : okR R) : okR R.take := by
  obtain ⟨⟨h1, h2, h3, h4, h5⟩, h6, h7⟩ := h
  refine ⟨⟨?_, (h6.2.2 _).1, (h6.2.2 _).2.1, (h6.2.2 _).2.2, h5⟩, h6, h7⟩
  show (if R.nx < R.T.2.2 - 1 then R.nx + 1 else R.nx) < R.T.2.2
  have h8 : R.nx < R.T.2.2 := h1
  split <;> omega
theorem RD.fail_ok {R : RD} (h : okR R) (c : Int) : okR (R.fail c) := by
  obtain ⟨⟨h1, h2⟩, h6⟩ := h
  exact ⟨⟨h1, h2⟩, h6⟩
theorem c_take {v : Ev} {h : Hp} {top q : Nat} {R : RD} (ok : okR R) : Cal v mX6_takeToken 1 0 0 [.ref q] (rdH v h q R) top (pV (rdH v h q R.take) top) noX := by
  obtain ⟨⟨h1, -⟩, h6, -⟩ := ok
  have h8 : R.nx < R.T.2.2 := h1
  have h9 := h6.1
  have h10 := h6.2.1
  refine Cal.ofJ (by decide +kernel) rfl (Nat.le_of_ble_eq_true rfl) fun hz0 => ?_
  refine r_ls [some (.ref q)] rfl ?_
  refine r_aload_n (pc := 0) (i := 0) (tX6_takeToken.at 0 rfl) rfl rfl ?_
  refine r_aload_n (pc := 1) (i := 0) (tX6_takeToken.at 1 rfl) rfl rfl ?_
  refine r_get (pc := 2) (tX6_takeToken.at 2 rfl) gf_X6_12 (rdH_0) rfl ?_
  refine r_get (pc := 5) (tX6_takeToken.at 3 rfl) gf_X6_152 (rdH_t0) rfl ?_
  refine r_aload_n (pc := 8) (i := 0) (tX6_takeToken.at 4 rfl) rfl rfl ?_
  refine r_get (pc := 9) (tX6_takeToken.at 5 rfl) gf_X6_32 (rdH_0) rfl ?_
  refine r_iald (pc := 12) (tX6_takeToken.at 6 rfl) (rdH_t2) (R.nx) (rfl) (by omega) (Nat.le_of_ble_eq_true rfl) ?_
  refine r_put (pc := 13) (tX6_takeToken.at 7 rfl) pf_X6_35 (rdH_0) (Nat.le_of_ble_eq_true rfl) (rfl) (rfl) ?_
  refine r_eq (h2 := rdH v h q (((R.err, R.eat, R.nx), (R.T.2.1.1 R.nx, R.st, R.vl), (R.hc, R.cl, R.wc)), R.2)) (rdH_p0 (R := R) ((R.err, R.eat, R.nx), (R.T.2.1.1 R.nx, R.st, R.vl), (R.hc, R.cl, R.wc))) rfl ?_
  refine r_aload_n (pc := 16) (i := 0) (tX6_takeToken.at 8 rfl) rfl rfl ?_
  refine r_aload_n (pc := 17) (i := 0) (tX6_takeToken.at 9 rfl) rfl rfl ?_
  refine r_get (pc := 18) (tX6_takeToken.at 10 rfl) gf_X6_12 (rdH_0) rfl ?_
  refine r_get (pc := 21) (tX6_takeToken.at 11 rfl) gf_X6_155 (rdH_t0) rfl ?_
  refine r_aload_n (pc := 24) (i := 0) (tX6_takeToken.at 12 rfl) rfl rfl ?_
  refine r_get (pc := 25) (tX6_takeToken.at 13 rfl) gf_X6_32 (rdH_0) rfl ?_
  refine r_iald (pc := 28) (tX6_takeToken.at 14 rfl) (rdH_t3) (R.nx) (rfl) (by omega) (Nat.le_of_ble_eq_true rfl) ?_
  refine r_put (pc := 29) (tX6_takeToken.at 15 rfl) pf_X6_38 (rdH_0) (Nat.le_of_ble_eq_true rfl) (rfl) (rfl) ?_
  refine r_eq (h2 := rdH v h q (((R.err, R.eat, R.nx), (R.T.2.1.1 R.nx, R.T.2.1.2.1 R.nx, R.vl), (R.hc, R.cl, R.wc)), R.2)) (rdH_p0 (R := (((R.err, R.eat, R.nx), (R.T.2.1.1 R.nx, R.st, R.vl), (R.hc, R.cl, R.wc)), R.2)) ((R.err, R.eat, R.nx), (R.T.2.1.1 R.nx, R.T.2.1.2.1 R.nx, R.vl), (R.hc, R.cl, R.wc))) rfl ?_
  refine r_aload_n (pc := 32) (i := 0) (tX6_takeToken.at 16 rfl) rfl rfl ?_
  refine r_aload_n (pc := 33) (i := 0) (tX6_takeToken.at 17 rfl) rfl rfl ?_
  refine r_get (pc := 34) (tX6_takeToken.at 18 rfl) gf_X6_12 (rdH_0) rfl ?_
  refine r_get (pc := 37) (tX6_takeToken.at 19 rfl) gf_X6_158 (rdH_t0) rfl ?_
  refine r_aload_n (pc := 40) (i := 0) (tX6_takeToken.at 20 rfl) rfl rfl ?_
  refine r_get (pc := 41) (tX6_takeToken.at 21 rfl) gf_X6_32 (rdH_0) rfl ?_
  refine r_iald (pc := 44) (tX6_takeToken.at 22 rfl) (rdH_t4) (R.nx) (rfl) (by omega) (Nat.le_of_ble_eq_true rfl) ?_
  refine r_put (pc := 45) (tX6_takeToken.at 23 rfl) pf_X6_41 (rdH_0) (Nat.le_of_ble_eq_true rfl) (rfl) (rfl) ?_
  refine r_eq (h2 := rdH v h q (((R.err, R.eat, R.nx), (R.T.2.1.1 R.nx, R.T.2.1.2.1 R.nx, R.T.2.1.2.2 R.nx), (R.hc, R.cl, R.wc)), R.2)) (rdH_p0 (R := (((R.err, R.eat, R.nx), (R.T.2.1.1 R.nx, R.T.2.1.2.1 R.nx, R.vl), (R.hc, R.cl, R.wc)), R.2)) ((R.err, R.eat, R.nx), (R.T.2.1.1 R.nx, R.T.2.1.2.1 R.nx, R.T.2.1.2.2 R.nx), (R.hc, R.cl, R.wc))) rfl ?_
  refine r_aload_n (pc := 48) (i := 0) (tX6_takeToken.at 24 rfl) rfl rfl ?_
  refine r_get (pc := 49) (tX6_takeToken.at 25 rfl) gf_X6_32 (rdH_0) rfl ?_
  refine r_aload_n (pc := 52) (i := 0) (tX6_takeToken.at 26 rfl) rfl rfl ?_
  refine r_get (pc := 53) (tX6_takeToken.at 27 rfl) gf_X6_12 (rdH_0) rfl ?_
  refine r_get (pc := 56) (tX6_takeToken.at 28 rfl) gf_X6_80 (rdH_t0) rfl ?_
  refine r_iconst (pc := 59) (w := nI 1) (tX6_takeToken.at 29 rfl) (by decide) ?_
  rw [show RD.T ((((R.err, R.eat, R.nx), (R.T.2.1.1 R.nx, R.T.2.1.2.1 R.nx, R.T.2.1.2.2 R.nx), (R.hc, R.cl, R.wc)), R.2) : RD) = R.T from rfl]
  first | refine r_isubN (pc := 60) (tX6_takeToken.at 30 rfl) (by omega) ?_ | refine r_isubZ (pc := 60) (tX6_takeToken.at 30 rfl) ?_ | refine r_isub (pc := 60) (tX6_takeToken.at 30 rfl) ?_
  refine r_eq rfl (st2 := [.int (nI (R.T.2.2 - 1)), .int (nI R.nx)]) rfl ?_
  refine r_icmp_geN (pc := 61) 74 (tX6_takeToken.at 31 rfl) (by decide) (by omega) (by omega) (fun c => ?_) (fun c => ?_)
  · refine r_vret (pc := 74) (tX6_takeToken.at 38 rfl) rfl (Nat.le_of_ble_eq_true rfl) (Nat.le_of_ble_eq_true rfl) ?_
    rw [RD.take, if_neg (by omega)]
    exact ⟨rfl, rfl, rfl⟩
  · refine r_aload_n (pc := 64) (i := 0) (tX6_takeToken.at 32 rfl) rfl rfl ?_
    refine r_dup (pc := 65) (tX6_takeToken.at 33 rfl) rfl ?_
    refine r_get (pc := 66) (tX6_takeToken.at 34 rfl) gf_X6_32 (rdH_0) rfl ?_
    refine r_iconst (pc := 69) (w := nI 1) (tX6_takeToken.at 35 rfl) (by decide) ?_
    first | refine r_iaddN (pc := 70) (tX6_takeToken.at 36 rfl) ?_ | refine r_iaddZ (pc := 70) (tX6_takeToken.at 36 rfl) ?_ | refine r_iadd (pc := 70) (tX6_takeToken.at 36 rfl) ?_
    refine r_put (pc := 71) (tX6_takeToken.at 37 rfl) pf_X6_32 (rdH_0) (Nat.le_of_ble_eq_true rfl) (rfl) (rfl) ?_
    refine r_eq (h2 := rdH v h q R.take) ((rdH_p0 ((R.err, R.eat, R.nx + 1), (R.T.2.1.1 R.nx, R.T.2.1.2.1 R.nx, R.T.2.1.2.2 R.nx), (R.hc, R.cl, R.wc))).trans (by rw [RD.take, if_pos c])) rfl ?_
    refine r_vret (pc := 74) (tX6_takeToken.at 38 rfl) rfl (Nat.le_of_ble_eq_true rfl) (Nat.le_of_ble_eq_true rfl) ?_
    exact ⟨rfl, rfl, rfl⟩
theorem c_fail {v : Ev} {h : Hp} {top q : Nat} {R : RD} {c : Int} : Cal v mX6_fail 1 0 0 [.ref q, .int (zI c)] (rdH v h q R) top (pR (.int (nI 0)) (rdH v h q (R.fail c)) top) noX := by
  refine Cal.ofJ (by decide +kernel) rfl (Nat.le_of_ble_eq_true rfl) fun hz0 => ?_
  refine r_ls [some (.ref q), some (.int (zI c))] rfl ?_
  refine r_aload_n (pc := 0) (i := 0) (tX6_fail.at 0 rfl) rfl rfl ?_
  refine r_iload_n (pc := 1) (i := 1) (tX6_fail.at 1 rfl) rfl rfl ?_
  refine r_put (pc := 2) (tX6_fail.at 2 rfl) pf_X6_25 (rdH_0) (Nat.le_of_ble_eq_true rfl) (rfl) (rfl) ?_
  refine r_eq (h2 := rdH v h q (((c, R.eat, R.nx), R.1.2), R.2)) (rdH_p0 (R := R) ((c, R.eat, R.nx), R.1.2)) rfl ?_
  refine r_aload_n (pc := 5) (i := 0) (tX6_fail.at 3 rfl) rfl rfl ?_
  refine r_aload_n (pc := 6) (i := 0) (tX6_fail.at 4 rfl) rfl rfl ?_
  refine r_get (pc := 7) (tX6_fail.at 5 rfl) gf_X6_38 (rdH_0) rfl ?_
  refine r_eq rfl (st2 := [.int (zI (R.st : Int)), .ref q]) (by rw [zI_nat]; rfl) ?_
  refine r_put (pc := 10) (tX6_fail.at 6 rfl) pf_X6_29 (rdH_0) (Nat.le_of_ble_eq_true rfl) (rfl) (rfl) ?_
  refine r_eq (h2 := rdH v h q (R.fail c)) (rdH_p0 (R := (((c, R.eat, R.nx), R.1.2), R.2)) ((c, (R.st : Int), R.nx), R.1.2)) rfl ?_
  refine r_iconst (pc := 13) (w := nI 0) (tX6_fail.at 7 rfl) (by decide) ?_
  refine r_zret (pc := 14) (tX6_fail.at 8 rfl) rfl (rfl) (Nat.le_of_ble_eq_true rfl) (Nat.le_of_ble_eq_true rfl) ?_
  exact ⟨rfl, rfl, rfl⟩
/-- reading a number between a and b -/
def rdNum (a b : Nat) (R : RD) : Bool × RD := if R.take.kd ≠ 257 then (false, R.take.fail (-2)) else if R.take.vl < a ∨ b < R.take.vl then (false, R.take.fail (-3)) else (true, R.take)
theorem rdNum_ok {a b : Nat} {R : RD} (h : okR R) : okR (rdNum a b R).2 := by
  unfold rdNum
  split
  · exact RD.fail_ok (RD.take_ok h) _
  · split
    · exact RD.fail_ok (RD.take_ok h) _
    · exact RD.take_ok h
def pB (v : Ev) (h : Hp) (q top : Nat) (x : Bool × RD) : Option Value → Hp → Nat → Prop := pR (.int (nI (Bool.toNat x.1))) (rdH v h q x.2) top
theorem c_rdNum {v : Ev} {h : Hp} {top q a b : Nat} {R : RD} (ok : okR R) (ha : a < 65536) (hb : b < 65536) : Cal v mX6_readNumber 2 0 0 [.ref q, .int (nI a), .int (nI b)] (rdH v h q R) top (pB v h q top (rdNum a b R)) noX := by
  obtain ⟨⟨-, k1, -, k3, -⟩, -⟩ := RD.take_ok ok
  have k1 : -128 ≤ R.take.kd ∧ R.take.kd ≤ 266 := k1
  have k3 : R.take.vl ≤ 10000 := k3
  refine Cal.ofJ (by decide +kernel) rfl (Nat.le_of_ble_eq_true rfl) fun hz0 => ?_
  refine r_ls [some (.ref q), some (.int (nI a)), some (.int (nI b))] rfl ?_
  refine r_aload_n (pc := 0) (i := 0) (tX6_readNumber.at 0 rfl) rfl rfl ?_
  refine r_callV (M' := mX6_takeToken) (pc := 1) (tX6_readNumber.at 1 rfl) ml_X6_61 rfl mw_X6_takeToken ⟨by decide, by decide⟩ (rdH_0) rfl rfl (c_take ok) rfl rfl (Nat.le_of_ble_eq_true rfl) (Nat.le_of_ble_eq_true rfl) (Nat.le_of_ble_eq_true rfl) ?_
  rintro _ _ _ ⟨rfl, rfl, rfl⟩
  refine r_aload_n (pc := 4) (i := 0) (tX6_readNumber.at 2 rfl) rfl rfl ?_
  refine r_get (pc := 5) (tX6_readNumber.at 3 rfl) gf_X6_35 (rdH_0) rfl ?_
  refine r_sipush (pc := 8) (w := zI 257) (tX6_readNumber.at 4 rfl) (by decide) ?_
  refine r_eq rfl (st2 := [.int (zI 257), .int (zI R.take.kd)]) rfl ?_
  refine r_icmp_eqZ (pc := 11) 21 (tX6_readNumber.at 5 rfl) (by decide) ⟨by omega, by omega⟩ ⟨by omega, by omega⟩ (fun c => ?_) (fun c => ?_)
  · refine r_aload_n (pc := 21) (i := 0) (tX6_readNumber.at 10 rfl) rfl rfl ?_
    refine r_get (pc := 22) (tX6_readNumber.at 11 rfl) gf_X6_41 (rdH_0) rfl ?_
    refine r_eq rfl (st2 := [.int (nI R.take.vl)]) rfl ?_
    refine r_iload_n (pc := 25) (i := 1) (tX6_readNumber.at 12 rfl) rfl rfl ?_
    refine r_icmp_ltN (pc := 26) 37 (tX6_readNumber.at 13 rfl) (by decide) (by omega) (by omega) (fun c2 => ?_) (fun c2 => ?_)
    · refine r_aload_n (pc := 37) (i := 0) (tX6_readNumber.at 18 rfl) rfl rfl ?_
      refine r_bipush (pc := 38) (w := zI (-3)) (tX6_readNumber.at 19 rfl) (by decide) ?_
      refine r_callV (M' := mX6_fail) (pc := 40) (tX6_readNumber.at 20 rfl) ml_X6_64 rfl mw_X6_fail ⟨by decide, by decide⟩ (rdH_0) rfl rfl (c_fail (c := -3)) rfl rfl (Nat.le_of_ble_eq_true rfl) (Nat.le_of_ble_eq_true rfl) (Nat.le_of_ble_eq_true rfl) ?_
      rintro _ _ _ ⟨rfl, rfl, rfl⟩
      refine r_zret (pc := 43) (tX6_readNumber.at 21 rfl) rfl (rfl) (Nat.le_of_ble_eq_true rfl) (Nat.le_of_ble_eq_true rfl) ?_
      rw [rdNum, if_neg (by omega), if_pos (by omega)]
      exact ⟨rfl, rfl, rfl⟩
    · refine r_aload_n (pc := 29) (i := 0) (tX6_readNumber.at 14 rfl) rfl rfl ?_
      refine r_get (pc := 30) (tX6_readNumber.at 15 rfl) gf_X6_41 (rdH_0) rfl ?_
      refine r_eq rfl (st2 := [.int (nI R.take.vl)]) rfl ?_
      refine r_iload_n (pc := 33) (i := 2) (tX6_readNumber.at 16 rfl) rfl rfl ?_
      refine r_icmp_leN (pc := 34) 44 (tX6_readNumber.at 17 rfl) (by decide) (by omega) (by omega) (fun c3 => ?_) (fun c3 => ?_)
      · refine r_iconst (pc := 44) (w := nI 1) (tX6_readNumber.at 22 rfl) (by decide) ?_
        refine r_zret (pc := 45) (tX6_readNumber.at 23 rfl) rfl (rfl) (Nat.le_of_ble_eq_true rfl) (Nat.le_of_ble_eq_true rfl) ?_
        rw [rdNum, if_neg (by omega), if_neg (by omega)]
        exact ⟨rfl, rfl, rfl⟩
      · refine r_aload_n (pc := 37) (i := 0) (tX6_readNumber.at 18 rfl) rfl rfl ?_
        refine r_bipush (pc := 38) (w := zI (-3)) (tX6_readNumber.at 19 rfl) (by decide) ?_
        refine r_callV (M' := mX6_fail) (pc := 40) (tX6_readNumber.at 20 rfl) ml_X6_64 rfl mw_X6_fail ⟨by decide, by decide⟩ (rdH_0) rfl rfl (c_fail (c := -3)) rfl rfl (Nat.le_of_ble_eq_true rfl) (Nat.le_of_ble_eq_true rfl) (Nat.le_of_ble_eq_true rfl) ?_
        rintro _ _ _ ⟨rfl, rfl, rfl⟩
        refine r_zret (pc := 43) (tX6_readNumber.at 21 rfl) rfl (rfl) (Nat.le_of_ble_eq_true rfl) (Nat.le_of_ble_eq_true rfl) ?_
        rw [rdNum, if_neg (by omega), if_pos (by omega)]
        exact ⟨rfl, rfl, rfl⟩
  · refine r_aload_n (pc := 14) (i := 0) (tX6_readNumber.at 6 rfl) rfl rfl ?_
    refine r_bipush (pc := 15) (w := zI (-2)) (tX6_readNumber.at 7 rfl) (by decide) ?_
    refine r_callV (M' := mX6_fail) (pc := 17) (tX6_readNumber.at 8 rfl) ml_X6_64 rfl mw_X6_fail ⟨by decide, by decide⟩ (rdH_0) rfl rfl (c_fail (c := -2)) rfl rfl (Nat.le_of_ble_eq_true rfl) (Nat.le_of_ble_eq_true rfl) (Nat.le_of_ble_eq_true rfl) ?_
    rintro _ _ _ ⟨rfl, rfl, rfl⟩
    refine r_zret (pc := 20) (tX6_readNumber.at 9 rfl) rfl (rfl) (Nat.le_of_ble_eq_true rfl) (Nat.le_of_ble_eq_true rfl) ?_
    rw [rdNum, if_pos c]
    exact ⟨rfl, rfl, rfl⟩
def rdSemi (R : RD) : Bool × RD := if R.take.kd = 59 then (true, R.take) else (false, R.take.fail (-2))
theorem rdSemi_ok {R : RD} (h : okR R) : okR (rdSemi R).2 := by
  unfold rdSemi
  split
  · exact RD.take_ok h
  · exact RD.fail_ok (RD.take_ok h) _
theorem c_rdSemi {v : Ev} {h : Hp} {top q : Nat} {R : RD} (ok : okR R) : Cal v mX6_readSemicolon 2 0 0 [.ref q] (rdH v h q R) top (pB v h q top (rdSemi R)) noX := by
  obtain ⟨⟨-, k1, -, k3, -⟩, -⟩ := RD.take_ok ok
  have k1 : -128 ≤ R.take.kd ∧ R.take.kd ≤ 266 := k1
  refine Cal.ofJ (by decide +kernel) rfl (Nat.le_of_ble_eq_true rfl) fun hz0 => ?_
  refine r_ls [some (.ref q)] rfl ?_
  refine r_aload_n (pc := 0) (i := 0) (tX6_readSemicolon.at 0 rfl) rfl rfl ?_
  refine r_callV (M' := mX6_takeToken) (pc := 1) (tX6_readSemicolon.at 1 rfl) ml_X6_61 rfl mw_X6_takeToken ⟨by decide, by decide⟩ (rdH_0) rfl rfl (c_take ok) rfl rfl (Nat.le_of_ble_eq_true rfl) (Nat.le_of_ble_eq_true rfl) (Nat.le_of_ble_eq_true rfl) ?_
  rintro _ _ _ ⟨rfl, rfl, rfl⟩
  refine r_aload_n (pc := 4) (i := 0) (tX6_readSemicolon.at 2 rfl) rfl rfl ?_
  refine r_get (pc := 5) (tX6_readSemicolon.at 3 rfl) gf_X6_35 (rdH_0) rfl ?_
  refine r_bipush (pc := 8) (w := zI 59) (tX6_readSemicolon.at 4 rfl) (by decide) ?_
  refine r_eq rfl (st2 := [.int (zI 59), .int (zI R.take.kd)]) rfl ?_
  refine r_icmp_eqZ (pc := 10) 22 (tX6_readSemicolon.at 5 rfl) (by decide) ⟨by omega, by omega⟩ ⟨by omega, by omega⟩ (fun c => ?_) (fun c => ?_)
  · refine r_iconst (pc := 22) (w := nI 1) (tX6_readSemicolon.at 10 rfl) (by decide) ?_
    refine r_goto (pc := 23) 27 (tX6_readSemicolon.at 11 rfl) (by decide) ?_
    refine r_zret (pc := 27) (tX6_readSemicolon.at 13 rfl) rfl (rfl) (Nat.le_of_ble_eq_true rfl) (Nat.le_of_ble_eq_true rfl) ?_
    rw [rdSemi, if_pos c]
    exact ⟨rfl, rfl, rfl⟩
  · refine r_aload_n (pc := 13) (i := 0) (tX6_readSemicolon.at 6 rfl) rfl rfl ?_
    refine r_bipush (pc := 14) (w := zI (-2)) (tX6_readSemicolon.at 7 rfl) (by decide) ?_
    refine r_callV (M' := mX6_fail) (pc := 16) (tX6_readSemicolon.at 8 rfl) ml_X6_64 rfl mw_X6_fail ⟨by decide, by decide⟩ (rdH_0) rfl rfl (c_fail (c := -2)) rfl rfl (Nat.le_of_ble_eq_true rfl) (Nat.le_of_ble_eq_true rfl) (Nat.le_of_ble_eq_true rfl) ?_
    rintro _ _ _ ⟨rfl, rfl, rfl⟩
    refine r_if_eqN (pc := 19) 26 (tX6_readSemicolon.at 9 rfl) (by decide) (by decide) (fun _ => ?_) (fun z => absurd rfl z)
    refine r_iconst (pc := 26) (w := nI 0) (tX6_readSemicolon.at 12 rfl) (by decide) ?_
    refine r_zret (pc := 27) (tX6_readSemicolon.at 13 rfl) rfl (rfl) (Nat.le_of_ble_eq_true rfl) (Nat.le_of_ble_eq_true rfl) ?_
    rw [rdSemi, if_neg c]
    exact ⟨rfl, rfl, rfl⟩
def rdVtx (R : RD) : Bool × RD := rdNum 0 (R.G.n - 1) R
theorem c_rdVtx {v : Ev} {h : Hp} {top q : Nat} {R : RD} (ok : okR R) (hn : 1 ≤ R.G.n) : Cal v mX6_readVertex 3 0 0 [.ref q] (rdH v h q R) top (pB v h q top (rdVtx R)) noX := by
  have h6 : R.G.n ≤ 6 := ok.2.2.1.1
  refine Cal.ofJ (by decide +kernel) rfl (Nat.le_of_ble_eq_true rfl) fun hz0 => ?_
  refine r_ls [some (.ref q)] rfl ?_
  refine r_aload_n (pc := 0) (i := 0) (tX6_readVertex.at 0 rfl) rfl rfl ?_
  refine r_iconst (pc := 1) (w := nI 0) (tX6_readVertex.at 1 rfl) (by decide) ?_
  refine r_aload_n (pc := 2) (i := 0) (tX6_readVertex.at 2 rfl) rfl rfl ?_
  refine r_get (pc := 3) (tX6_readVertex.at 3 rfl) gf_X6_21 (rdH_0) rfl ?_
  refine r_get (pc := 6) (tX6_readVertex.at 4 rfl) gf_X6_149 (rdH_G.1) rfl ?_
  refine r_iconst (pc := 9) (w := nI 1) (tX6_readVertex.at 5 rfl) (by decide) ?_
  first | refine r_isubN (pc := 10) (tX6_readVertex.at 6 rfl) (by omega) ?_ | refine r_isubZ (pc := 10) (tX6_readVertex.at 6 rfl) ?_ | refine r_isub (pc := 10) (tX6_readVertex.at 6 rfl) ?_
  refine r_callV (M' := mX6_readNumber) (pc := 11) (tX6_readVertex.at 7 rfl) ml_X6_68 rfl mw_X6_readNumber ⟨by decide, by decide⟩ (rdH_0) rfl rfl (c_rdNum ok (by omega) (by omega)) rfl rfl (Nat.le_of_ble_eq_true rfl) (Nat.le_of_ble_eq_true rfl) (Nat.le_of_ble_eq_true rfl) ?_
  rintro _ _ _ ⟨rfl, rfl, rfl⟩
  refine r_zret (pc := 14) (tX6_readVertex.at 8 rfl) rfl ((by rcases (show (rdNum 0 (R.G.n - 1) R).1 = true ∨ (rdNum 0 (R.G.n - 1) R).1 = false by cases (rdNum 0 (R.G.n - 1) R).1 <;> simp) with e | e <;> rw [e] <;> rfl)) (Nat.le_of_ble_eq_true rfl) (Nat.le_of_ble_eq_true rfl) ?_
  exact ⟨rfl, rfl, rfl⟩

