/-! ===== Reader: codes, factors, statements without cost ===== -/
def RD.emit (R : RD) (x : Int) : RD := if R.cl < 600 then ((R.1.1, R.1.2.1, (R.hc, R.cl + 1, R.wc)), R.T, R.G, upZ R.cd R.cl x, R.wt) else R
def RD.push (R : RD) (x : Int) : RD := if R.wc < 14 then ((R.1.1, R.1.2.1, (R.hc, R.cl, R.wc + 1)), R.T, R.G, R.cd, upZ R.wt R.wc x) else R
def RD.sWc (R : RD) (n : Nat) : RD := ((R.1.1, R.1.2.1, (R.hc, R.cl, n)), R.2)
def RD.sG (R : RD) (G : GT) : RD := (R.1, R.T, G, R.cd, R.wt)
theorem RD.emit_ok {R : RD} (h : okR R) {x : Int} (hx : -7 ≤ x ∧ x ≤ 10000) : okR (R.emit x) := by
  unfold RD.emit
  split
  · next c =>
    obtain ⟨⟨h1, h2, h3, h4, h5, h6, h7⟩, g1, g2, g3, g4⟩ := h
    refine ⟨⟨h1, h2, h3, h4, h5, c, h7⟩, g1, g2, fun k => ?_, g4⟩
    show -7 ≤ upZ R.cd R.cl x k ∧ upZ R.cd R.cl x k ≤ 10000
    unfold upZ
    split
    · exact hx
    · exact g3 k
  · exact h
theorem RD.push_ok {R : RD} (h : okR R) {x : Int} (hx : -128 ≤ x ∧ x ≤ 266) : okR (R.push x) := by
  unfold RD.push
  split
  · next c =>
    obtain ⟨⟨h1, h2, h3, h4, h5, h6, h7⟩, g1, g2, g3, g4⟩ := h
    refine ⟨⟨h1, h2, h3, h4, h5, h6, c⟩, g1, g2, g3, fun k => ?_⟩
    show -128 ≤ upZ R.wt R.wc x k ∧ upZ R.wt R.wc x k ≤ 266
    unfold upZ
    split
    · exact hx
    · exact g4 k
  · exact h
theorem RD.sWc_ok {R : RD} (h : okR R) {n : Nat} (hn : n ≤ 14) : okR (R.sWc n) := by
  obtain ⟨⟨h1, h2, h3, h4, h5, h6, h7⟩, g⟩ := h
  exact ⟨⟨h1, h2, h3, h4, h5, h6, hn⟩, g⟩
theorem RD.sG_ok {R : RD} (h : okR R) {G : GT} (hG : okG G) : okR (R.sG G) := ⟨h.1, h.2.1, hG, h.2.2.2⟩
theorem c_emit {v : Ev} {h : Hp} {top q : Nat} {R : RD} {x : Int} (ok : okR R) : Cal v mX6_emit 1 0 0 [.ref q, .int (zI x)] (rdH v h q R) top (pV (rdH v h q (R.emit x)) top) noX := by
  have h6 : R.cl ≤ 600 := ok.1.2.2.2.2.2.1
  refine Cal.ofJ (by decide +kernel) rfl (Nat.le_of_ble_eq_true rfl) fun hz0 => ?_
  refine r_ls [some (.ref q), some (.int (zI x))] rfl ?_
  refine r_aload_n (pc := 0) (i := 0) (tX6_emit.at 0 rfl) rfl rfl ?_
  refine r_get (pc := 1) (tX6_emit.at 1 rfl) gf_X6_52 (rdH_0) rfl ?_
  refine r_aload_n (pc := 4) (i := 0) (tX6_emit.at 2 rfl) rfl rfl ?_
  refine r_get (pc := 5) (tX6_emit.at 3 rfl) gf_X6_48 (rdH_0) rfl ?_
  refine r_alenI (pc := 8) (tX6_emit.at 4 rfl) (rdH_12) ?_
  refine r_eq rfl (st2 := [.int (nI 600), .int (nI R.cl)]) rfl ?_
  refine r_icmp_geN (pc := 9) 32 (tX6_emit.at 5 rfl) (by decide) (by omega) (by omega) (fun c => ?_) (fun c => ?_)
  · refine r_vret (pc := 32) (tX6_emit.at 18 rfl) rfl (Nat.le_of_ble_eq_true rfl) (Nat.le_of_ble_eq_true rfl) ?_
    rw [RD.emit, if_neg (by omega)]
    exact ⟨rfl, rfl, rfl⟩
  · refine r_aload_n (pc := 12) (i := 0) (tX6_emit.at 6 rfl) rfl rfl ?_
    refine r_get (pc := 13) (tX6_emit.at 7 rfl) gf_X6_48 (rdH_0) rfl ?_
    refine r_aload_n (pc := 16) (i := 0) (tX6_emit.at 8 rfl) rfl rfl ?_
    refine r_get (pc := 17) (tX6_emit.at 9 rfl) gf_X6_52 (rdH_0) rfl ?_
    refine r_iload_n (pc := 20) (i := 1) (tX6_emit.at 10 rfl) rfl rfl ?_
    refine r_iast (pc := 21) (tX6_emit.at 11 rfl) (rdH_12) (R.cl) (rfl) (by omega) (Nat.le_of_ble_eq_true rfl) ?_
    rw [upd_sF, rdH_p12]
    refine r_aload_n (pc := 22) (i := 0) (tX6_emit.at 12 rfl) rfl rfl ?_
    refine r_dup (pc := 23) (tX6_emit.at 13 rfl) rfl ?_
    refine r_get (pc := 24) (tX6_emit.at 14 rfl) gf_X6_52 (rdH_0) rfl ?_
    refine r_iconst (pc := 27) (w := nI 1) (tX6_emit.at 15 rfl) (by decide) ?_
    first | refine r_iaddN (pc := 28) (tX6_emit.at 16 rfl) ?_ | refine r_iaddZ (pc := 28) (tX6_emit.at 16 rfl) ?_ | refine r_iadd (pc := 28) (tX6_emit.at 16 rfl) ?_
    refine r_put (pc := 29) (tX6_emit.at 17 rfl) pf_X6_52 (rdH_0) (Nat.le_of_ble_eq_true rfl) (rfl) (rfl) ?_
    refine r_eq (h2 := rdH v h q (R.emit x)) ((rdH_p0 (R := (R.1, R.T, R.G, upZ R.cd R.cl x, R.wt)) (R.1.1, R.1.2.1, (R.hc, R.cl + 1, R.wc))).trans (by rw [RD.emit, if_pos c])) rfl ?_
    refine r_vret (pc := 32) (tX6_emit.at 18 rfl) rfl (Nat.le_of_ble_eq_true rfl) (Nat.le_of_ble_eq_true rfl) ?_
    exact ⟨rfl, rfl, rfl⟩
theorem c_push {v : Ev} {h : Hp} {top q : Nat} {R : RD} {x : Int} (ok : okR R) : Cal v mX6_postpone 1 0 0 [.ref q, .int (zI x)] (rdH v h q R) top (pV (rdH v h q (R.push x)) top) noX := by
  have h6 : R.wc ≤ 14 := ok.1.2.2.2.2.2.2
  refine Cal.ofJ (by decide +kernel) rfl (Nat.le_of_ble_eq_true rfl) fun hz0 => ?_
  refine r_ls [some (.ref q), some (.int (zI x))] rfl ?_
  refine r_aload_n (pc := 0) (i := 0) (tX6_postpone.at 0 rfl) rfl rfl ?_
  refine r_get (pc := 1) (tX6_postpone.at 1 rfl) gf_X6_58 (rdH_0) rfl ?_
  refine r_aload_n (pc := 4) (i := 0) (tX6_postpone.at 2 rfl) rfl rfl ?_
  refine r_get (pc := 5) (tX6_postpone.at 3 rfl) gf_X6_55 (rdH_0) rfl ?_
  refine r_alenI (pc := 8) (tX6_postpone.at 4 rfl) (rdH_13) ?_
  refine r_eq rfl (st2 := [.int (nI 14), .int (nI R.wc)]) rfl ?_
  refine r_icmp_geN (pc := 9) 32 (tX6_postpone.at 5 rfl) (by decide) (by omega) (by omega) (fun c => ?_) (fun c => ?_)
  · refine r_vret (pc := 32) (tX6_postpone.at 18 rfl) rfl (Nat.le_of_ble_eq_true rfl) (Nat.le_of_ble_eq_true rfl) ?_
    rw [RD.push, if_neg (by omega)]
    exact ⟨rfl, rfl, rfl⟩
  · refine r_aload_n (pc := 12) (i := 0) (tX6_postpone.at 6 rfl) rfl rfl ?_
    refine r_get (pc := 13) (tX6_postpone.at 7 rfl) gf_X6_55 (rdH_0) rfl ?_
    refine r_aload_n (pc := 16) (i := 0) (tX6_postpone.at 8 rfl) rfl rfl ?_
    refine r_get (pc := 17) (tX6_postpone.at 9 rfl) gf_X6_58 (rdH_0) rfl ?_
    refine r_iload_n (pc := 20) (i := 1) (tX6_postpone.at 10 rfl) rfl rfl ?_
    refine r_iast (pc := 21) (tX6_postpone.at 11 rfl) (rdH_13) (R.wc) (rfl) (by omega) (Nat.le_of_ble_eq_true rfl) ?_
    rw [upd_sF, rdH_p13]
    refine r_aload_n (pc := 22) (i := 0) (tX6_postpone.at 12 rfl) rfl rfl ?_
    refine r_dup (pc := 23) (tX6_postpone.at 13 rfl) rfl ?_
    refine r_get (pc := 24) (tX6_postpone.at 14 rfl) gf_X6_58 (rdH_0) rfl ?_
    refine r_iconst (pc := 27) (w := nI 1) (tX6_postpone.at 15 rfl) (by decide) ?_
    first | refine r_iaddN (pc := 28) (tX6_postpone.at 16 rfl) ?_ | refine r_iaddZ (pc := 28) (tX6_postpone.at 16 rfl) ?_ | refine r_iadd (pc := 28) (tX6_postpone.at 16 rfl) ?_
    refine r_put (pc := 29) (tX6_postpone.at 17 rfl) pf_X6_58 (rdH_0) (Nat.le_of_ble_eq_true rfl) (rfl) (rfl) ?_
    refine r_eq (h2 := rdH v h q (R.push x)) ((rdH_p0 (R := (R.1, R.T, R.G, R.cd, upZ R.wt R.wc x)) (R.1.1, R.1.2.1, (R.hc, R.cl, R.wc + 1))).trans (by rw [RD.push, if_pos c])) rfl ?_
    refine r_vret (pc := 32) (tX6_postpone.at 18 rfl) rfl (Nat.le_of_ble_eq_true rfl) (Nat.le_of_ble_eq_true rfl) ?_
    exact ⟨rfl, rfl, rfl⟩
def str (k : Int) : Nat := if k = 42 ∨ k = 47 then 2 else if k = 43 ∨ k = 45 then 1 else 0
def oprI (k : Int) : Int := if k = 43 then -4 else if k = 45 then -5 else if k = 42 then -6 else -7
theorem oprI_b (k : Int) : -7 ≤ oprI k ∧ oprI k ≤ 10000 := by unfold oprI; split <;> (try split) <;> (try split) <;> omega
theorem c_str {v : Ev} {h : Hp} {top : Nat} {k : Int} (hk : -128 ≤ k ∧ k ≤ 266) : Cal v mX6_strength 1 0 0 [.int (zI k)] h top (pR (.int (nI (str k))) h top) noX := by
  refine Cal.ofJ (by decide +kernel) rfl (Nat.le_of_ble_eq_true rfl) fun hz0 => ?_
  refine r_ls [some (.int (zI k))] rfl ?_
  have two : (k = 42 ∨ k = 47) → J v mX6_strength (rmOf 1 0 0) (KM v (pR (.int (nI (str k))) h top) noX 0 0) top 0 0 h top 12 [some (.int (zI k))] [] := by
    intro c
    refine r_iconst (pc := 12) (w := nI 2) (tX6_strength.at 6 rfl) (by decide) ?_
    refine r_iret (pc := 13) (tX6_strength.at 7 rfl) rfl (Nat.le_of_ble_eq_true rfl) (Nat.le_of_ble_eq_true rfl) ?_
    rw [str, if_pos c]
    exact ⟨rfl, rfl, rfl⟩
  have one : ¬ (k = 42 ∨ k = 47) → (k = 43 ∨ k = 45) → J v mX6_strength (rmOf 1 0 0) (KM v (pR (.int (nI (str k))) h top) noX 0 0) top 0 0 h top 26 [some (.int (zI k))] [] := by
    intro c c2
    refine r_iconst (pc := 26) (w := nI 1) (tX6_strength.at 14 rfl) (by decide) ?_
    refine r_goto (pc := 27) 31 (tX6_strength.at 15 rfl) (by decide) ?_
    refine r_iret (pc := 31) (tX6_strength.at 17 rfl) rfl (Nat.le_of_ble_eq_true rfl) (Nat.le_of_ble_eq_true rfl) ?_
    rw [str, if_neg c, if_pos c2]
    exact ⟨rfl, rfl, rfl⟩
  refine r_iload_n (pc := 0) (i := 0) (tX6_strength.at 0 rfl) rfl rfl ?_
  refine r_bipush (pc := 1) (w := nI 42) (tX6_strength.at 1 rfl) (by decide) ?_
  rw [show nI 42 = zI 42 from rfl]
  refine r_icmp_eqZ (pc := 3) 12 (tX6_strength.at 2 rfl) (by decide) ⟨by omega, by omega⟩ ⟨by omega, by omega⟩ (fun c1 => ?_) (fun c1 => ?_)
  · exact two (Or.inl c1)
  · refine r_iload_n (pc := 6) (i := 0) (tX6_strength.at 3 rfl) rfl rfl ?_
    refine r_bipush (pc := 7) (w := nI 47) (tX6_strength.at 4 rfl) (by decide) ?_
    rw [show nI 47 = zI 47 from rfl]
    refine r_icmp_neZ (pc := 9) 14 (tX6_strength.at 5 rfl) (by decide) ⟨by omega, by omega⟩ ⟨by omega, by omega⟩ (fun c2 => ?_) (fun c2 => ?_)
    · refine r_iload_n (pc := 14) (i := 0) (tX6_strength.at 8 rfl) rfl rfl ?_
      refine r_bipush (pc := 15) (w := nI 43) (tX6_strength.at 9 rfl) (by decide) ?_
      rw [show nI 43 = zI 43 from rfl]
      refine r_icmp_eqZ (pc := 17) 26 (tX6_strength.at 10 rfl) (by decide) ⟨by omega, by omega⟩ ⟨by omega, by omega⟩ (fun c3 => ?_) (fun c3 => ?_)
      · exact one (by omega) (Or.inl c3)
      · refine r_iload_n (pc := 20) (i := 0) (tX6_strength.at 11 rfl) rfl rfl ?_
        refine r_bipush (pc := 21) (w := nI 45) (tX6_strength.at 12 rfl) (by decide) ?_
        rw [show nI 45 = zI 45 from rfl]
        refine r_icmp_neZ (pc := 23) 30 (tX6_strength.at 13 rfl) (by decide) ⟨by omega, by omega⟩ ⟨by omega, by omega⟩ (fun c4 => ?_) (fun c4 => ?_)
        · refine r_iconst (pc := 30) (w := nI 0) (tX6_strength.at 16 rfl) (by decide) ?_
          refine r_iret (pc := 31) (tX6_strength.at 17 rfl) rfl (Nat.le_of_ble_eq_true rfl) (Nat.le_of_ble_eq_true rfl) ?_
          rw [str, if_neg (by omega), if_neg (by omega)]
          exact ⟨rfl, rfl, rfl⟩
        · exact one (by omega) (Or.inr c4)
    · exact two (Or.inr c2)
theorem c_opr2 {v : Ev} {h : Hp} {top : Nat} {k : Int} (hk : -128 ≤ k ∧ k ≤ 266) : Cal v mX6_operation 1 0 0 [.int (zI k)] h top (pR (.int (zI (oprI k))) h top) noX := by
  refine Cal.ofJ (by decide +kernel) rfl (Nat.le_of_ble_eq_true rfl) fun hz0 => ?_
  refine r_ls [some (.int (zI k))] rfl ?_
  refine r_iload_n (pc := 0) (i := 0) (tX6_operation.at 0 rfl) rfl rfl ?_
  have ei : (zI k).toInt = k := zI_toInt ⟨by omega, by omega⟩
  by_cases h1 : k = 42
  · subst h1
    refine r_swIn (pc := 1) (off := 37) 38 (tX6_operation.at 1 rfl) (by decide) (by decide) (by decide) (by decide) ?_
    refine r_bipush (pc := 38) (w := zI (-6)) (tX6_operation.at 6 rfl) (by decide) ?_
    refine r_iret (pc := 40) (tX6_operation.at 7 rfl) rfl (Nat.le_of_ble_eq_true rfl) (Nat.le_of_ble_eq_true rfl) ?_
    exact ⟨rfl, rfl, rfl⟩
  by_cases h2 : k = 43
  · subst h2
    refine r_swIn (pc := 1) (off := 31) 32 (tX6_operation.at 1 rfl) (by decide) (by decide) (by decide) (by decide) ?_
    refine r_bipush (pc := 32) (w := zI (-4)) (tX6_operation.at 2 rfl) (by decide) ?_
    refine r_iret (pc := 34) (tX6_operation.at 3 rfl) rfl (Nat.le_of_ble_eq_true rfl) (Nat.le_of_ble_eq_true rfl) ?_
    exact ⟨rfl, rfl, rfl⟩
  by_cases h3 : k = 45
  · subst h3
    refine r_swIn (pc := 1) (off := 34) 35 (tX6_operation.at 1 rfl) (by decide) (by decide) (by decide) (by decide) ?_
    refine r_bipush (pc := 35) (w := zI (-5)) (tX6_operation.at 4 rfl) (by decide) ?_
    refine r_iret (pc := 37) (tX6_operation.at 5 rfl) rfl (Nat.le_of_ble_eq_true rfl) (Nat.le_of_ble_eq_true rfl) ?_
    exact ⟨rfl, rfl, rfl⟩
  have e : oprI k = -7 := by rw [oprI, if_neg h2, if_neg h3, if_neg h1]
  rw [e]
  by_cases h4 : k = 44
  · subst h4
    refine r_swIn (pc := 1) (off := 40) 41 (tX6_operation.at 1 rfl) (by decide) (by decide) (by decide) (by decide) ?_
    refine r_bipush (pc := 41) (w := zI (-7)) (tX6_operation.at 8 rfl) (by decide) ?_
    refine r_iret (pc := 43) (tX6_operation.at 9 rfl) rfl (Nat.le_of_ble_eq_true rfl) (Nat.le_of_ble_eq_true rfl) ?_
    exact ⟨rfl, rfl, rfl⟩
  refine r_swOut (pc := 1) 41 (tX6_operation.at 1 rfl) (by rw [ei]; omega) (by decide) ?_
  refine r_bipush (pc := 41) (w := zI (-7)) (tX6_operation.at 8 rfl) (by decide) ?_
  refine r_iret (pc := 43) (tX6_operation.at 9 rfl) rfl (Nat.le_of_ble_eq_true rfl) (Nat.le_of_ble_eq_true rfl) ?_
  exact ⟨rfl, rfl, rfl⟩
/-- one waiting sign is released -/
def RD.pop1 (R : RD) : RD := (R.sWc (R.wc - 1)).emit (oprI (R.wt (R.wc - 1)))
def RD.relF (s : Nat) : Nat → RD → RD
  | 0, R => R
  | f + 1, R => if 0 < R.wc ∧ s ≤ str (R.wt (R.wc - 1)) then RD.relF s f R.pop1 else R
def RD.rel (R : RD) (s : Nat) : RD := RD.relF s R.wc R
theorem RD.pop1_ok {R : RD} (h : okR R) : okR R.pop1 := by
  have h7 : R.wc ≤ 14 := h.1.2.2.2.2.2.2
  exact RD.emit_ok (RD.sWc_ok h (by omega)) (oprI_b _)
theorem RD.pop1_wc (R : RD) : R.pop1.wc = R.wc - 1 := by
  unfold RD.pop1 RD.emit
  split <;> rfl
theorem RD.relF_ok {s : Nat} : ∀ {f : Nat} {R : RD}, okR R → okR (RD.relF s f R)
  | 0, _, h => h
  | f + 1, R, h => by
    rw [RD.relF]
    split
    · exact RD.relF_ok (RD.pop1_ok h)
    · exact h
theorem RD.rel_ok {s : Nat} {R : RD} (h : okR R) : okR (R.rel s) := RD.relF_ok h
theorem c_release {v : Ev} {h : Hp} {top q s : Nat} {R : RD} (ok : okR R) (hs : s ≤ 2) : Cal v mX6_release 2 0 0 [.ref q, .int (nI s)] (rdH v h q R) top (pV (rdH v h q (R.rel s)) top) noX := by
  refine Cal.ofJ (by decide +kernel) rfl (Nat.le_of_ble_eq_true rfl) fun hz0 => ?_
  refine r_ls [some (.ref q), some (.int (nI s))] rfl ?_
  generalize hX : R.rel s = X
  have key : ∀ f (R : RD), okR R → R.wc = f → RD.relF s f R = X → J v mX6_release (rmOf 2 0 0) (KM v (pV (rdH v h q X) top) noX 0 0) top 0 0 (rdH v h q R) top 0 [some (.ref q), some (.int (nI s))] [] := by
    intro f
    induction f with
    | zero =>
      intro R ok hw hR
      refine r_aload_n (pc := 0) (i := 0) (tX6_release.at 0 rfl) rfl rfl ?_
      refine r_get (pc := 1) (tX6_release.at 1 rfl) gf_X6_58 (rdH_0) rfl ?_
      refine r_eq rfl (st2 := [.int (nI R.wc)]) rfl ?_
      refine r_if_leN (pc := 4) 54 (tX6_release.at 2 rfl) (by decide) (by omega) (fun _ => ?_) (fun z => by omega)
      refine r_vret (pc := 54) (tX6_release.at 28 rfl) rfl (Nat.le_of_ble_eq_true rfl) (Nat.le_of_ble_eq_true rfl) ?_
      rw [← hR]
      exact ⟨rfl, rfl, rfl⟩
    | succ f ih =>
      intro R ok hw hR
      have hb := ok.2.2.2.2 (R.wc - 1)
      have h7 : R.wc ≤ 14 := ok.1.2.2.2.2.2.2
      rw [RD.relF] at hR
      refine r_aload_n (pc := 0) (i := 0) (tX6_release.at 0 rfl) rfl rfl ?_
      refine r_get (pc := 1) (tX6_release.at 1 rfl) gf_X6_58 (rdH_0) rfl ?_
      refine r_eq rfl (st2 := [.int (nI R.wc)]) rfl ?_
      refine r_if_leN (pc := 4) 54 (tX6_release.at 2 rfl) (by decide) (by omega) (fun z => by omega) (fun _ => ?_)
      refine r_aload_n (pc := 7) (i := 0) (tX6_release.at 3 rfl) rfl rfl ?_
      refine r_get (pc := 8) (tX6_release.at 4 rfl) gf_X6_55 (rdH_0) rfl ?_
      refine r_aload_n (pc := 11) (i := 0) (tX6_release.at 5 rfl) rfl rfl ?_
      refine r_get (pc := 12) (tX6_release.at 6 rfl) gf_X6_58 (rdH_0) rfl ?_
      refine r_iconst (pc := 15) (w := nI 1) (tX6_release.at 7 rfl) (by decide) ?_
      refine r_eq rfl (st2 := [.int (nI 1), .int (nI R.wc), .ref (q + 13)]) rfl ?_
      first | refine r_isubN (pc := 16) (tX6_release.at 8 rfl) (by omega) ?_ | refine r_isubZ (pc := 16) (tX6_release.at 8 rfl) ?_ | refine r_isub (pc := 16) (tX6_release.at 8 rfl) ?_
      refine r_iald (pc := 17) (tX6_release.at 9 rfl) (rdH_13) (R.wc - 1) (rfl) (by omega) (Nat.le_of_ble_eq_true rfl) ?_
      rw [show sF R.wt (R.wc - 1) = zI (R.wt (R.wc - 1)) from rfl]
      refine r_callS (M' := mX6_strength) (pc := 18) (tX6_release.at 10 rfl) ml_X6_125 rfl mw_X6_strength ⟨by decide, by decide⟩ (c_str hb) rfl rfl (Nat.le_of_ble_eq_true rfl) (Nat.le_of_ble_eq_true rfl) (Nat.le_of_ble_eq_true rfl) ?_
      rintro _ _ _ ⟨rfl, rfl, rfl⟩
      refine r_iload_n (pc := 21) (i := 1) (tX6_release.at 11 rfl) rfl rfl ?_
      have hst : str (R.wt (R.wc - 1)) ≤ 2 := by unfold str; split <;> (try split) <;> omega
      refine r_icmp_ltN (pc := 22) 54 (tX6_release.at 12 rfl) (by decide) (by omega) (by omega) (fun c => ?_) (fun c => ?_)
      · refine r_vret (pc := 54) (tX6_release.at 28 rfl) rfl (Nat.le_of_ble_eq_true rfl) (Nat.le_of_ble_eq_true rfl) ?_
        rw [if_neg (by omega)] at hR
        rw [← hR]
        exact ⟨rfl, rfl, rfl⟩
      · rw [if_pos ⟨by omega, c⟩] at hR
        refine r_aload_n (pc := 25) (i := 0) (tX6_release.at 13 rfl) rfl rfl ?_
        refine r_dup (pc := 26) (tX6_release.at 14 rfl) rfl ?_
        refine r_get (pc := 27) (tX6_release.at 15 rfl) gf_X6_58 (rdH_0) rfl ?_
        refine r_iconst (pc := 30) (w := nI 1) (tX6_release.at 16 rfl) (by decide) ?_
        refine r_eq rfl (st2 := [.int (nI 1), .int (nI R.wc), .ref q]) rfl ?_
        first | refine r_isubN (pc := 31) (tX6_release.at 17 rfl) (by omega) ?_ | refine r_isubZ (pc := 31) (tX6_release.at 17 rfl) ?_ | refine r_isub (pc := 31) (tX6_release.at 17 rfl) ?_
        refine r_put (pc := 32) (tX6_release.at 18 rfl) pf_X6_58 (rdH_0) (Nat.le_of_ble_eq_true rfl) (rfl) (rfl) ?_
        refine r_eq (h2 := rdH v h q (R.sWc (R.wc - 1))) (rdH_p0 (R := R) (R.1.1, R.1.2.1, (R.hc, R.cl, R.wc - 1))) rfl ?_
        refine r_aload_n (pc := 35) (i := 0) (tX6_release.at 19 rfl) rfl rfl ?_
        refine r_aload_n (pc := 36) (i := 0) (tX6_release.at 20 rfl) rfl rfl ?_
        refine r_get (pc := 37) (tX6_release.at 21 rfl) gf_X6_55 (rdH_0) rfl ?_
        refine r_aload_n (pc := 40) (i := 0) (tX6_release.at 22 rfl) rfl rfl ?_
        refine r_get (pc := 41) (tX6_release.at 23 rfl) gf_X6_58 (rdH_0) rfl ?_
        refine r_iald (pc := 44) (tX6_release.at 24 rfl) (rdH_13) (R.wc - 1) (rfl) (by omega) (Nat.le_of_ble_eq_true rfl) ?_
        rw [show sF (R.sWc (R.wc - 1)).wt (R.wc - 1) = zI (R.wt (R.wc - 1)) from rfl]
        refine r_callS (M' := mX6_operation) (pc := 45) (tX6_release.at 25 rfl) ml_X6_146 rfl mw_X6_operation ⟨by decide, by decide⟩ (c_opr2 hb) rfl rfl (Nat.le_of_ble_eq_true rfl) (Nat.le_of_ble_eq_true rfl) (Nat.le_of_ble_eq_true rfl) ?_
        rintro _ _ _ ⟨rfl, rfl, rfl⟩
        refine r_callV (M' := mX6_emit) (pc := 48) (tX6_release.at 26 rfl) ml_X6_141 rfl mw_X6_emit ⟨by decide, by decide⟩ (rdH_0) rfl rfl (c_emit (RD.sWc_ok ok (by omega))) rfl rfl (Nat.le_of_ble_eq_true rfl) (Nat.le_of_ble_eq_true rfl) (Nat.le_of_ble_eq_true rfl) ?_
        rintro _ _ _ ⟨rfl, rfl, rfl⟩
        refine r_goto (pc := 51) 0 (tX6_release.at 27 rfl) (by decide) ?_
        exact ih R.pop1 (RD.pop1_ok ok) (by rw [RD.pop1_wc]; omega) hR
  exact key R.wc R ok rfl hX
def rdFac (R : RD) : Bool × RD := if R.kd = 257 then (if 9999 < R.vl then (false, R.fail (-3)) else (true, R.emit R.vl)) else if R.kd = 263 then (true, R.emit (-1)) else if R.kd = 264 then (true, R.emit (-2)) else if R.kd = 265 then (true, R.emit (-3)) else (false, R.fail (-2))
theorem rdFac_ok {R : RD} (h : okR R) : okR (rdFac R).2 := by
  have h4 : R.vl ≤ 10000 := h.1.2.2.2.1
  unfold rdFac
  split
  · split
    · exact RD.fail_ok h _
    · exact RD.emit_ok h (by omega)
  · split
    · exact RD.emit_ok h (by omega)
    · split
      · exact RD.emit_ok h (by omega)
      · split
        · exact RD.emit_ok h (by omega)
        · exact RD.fail_ok h _
theorem c_rdFac {v : Ev} {h : Hp} {top q : Nat} {R : RD} (ok : okR R) : Cal v mX6_readFactor 2 0 0 [.ref q] (rdH v h q R) top (pB v h q top (rdFac R)) noX := by
  have h4 : R.vl ≤ 10000 := ok.1.2.2.2.1
  have k1 : -128 ≤ R.kd ∧ R.kd ≤ 266 := ok.1.2.1
  refine Cal.ofJ (by decide +kernel) rfl (Nat.le_of_ble_eq_true rfl) fun hz0 => ?_
  refine r_ls [some (.ref q)] rfl ?_
  refine r_aload_n (pc := 0) (i := 0) (tX6_readFactor.at 0 rfl) rfl rfl ?_
  refine r_get (pc := 1) (tX6_readFactor.at 1 rfl) gf_X6_35 (rdH_0) rfl ?_
  refine r_eq rfl (st2 := [.int (zI R.kd)]) rfl ?_
  have ei : (zI R.kd).toInt = R.kd := zI_toInt ⟨by omega, by omega⟩
  by_cases h1 : R.kd = 257
  · rw [h1]
    refine r_swIn (pc := 4) (off := 52) 56 (tX6_readFactor.at 2 rfl) (by decide) (by decide) (by decide) (by decide) ?_
    refine r_aload_n (pc := 56) (i := 0) (tX6_readFactor.at 3 rfl) rfl rfl ?_
    refine r_get (pc := 57) (tX6_readFactor.at 4 rfl) gf_X6_41 (rdH_0) rfl ?_
    refine r_eq rfl (st2 := [.int (nI R.vl)]) rfl ?_
    refine r_sipush (pc := 60) (w := nI 9999) (tX6_readFactor.at 5 rfl) (by decide) ?_
    refine r_icmp_leN (pc := 63) 73 (tX6_readFactor.at 6 rfl) (by decide) (by omega) (by omega) (fun c => ?_) (fun c => ?_)
    · refine r_aload_n (pc := 73) (i := 0) (tX6_readFactor.at 11 rfl) rfl rfl ?_
      refine r_aload_n (pc := 74) (i := 0) (tX6_readFactor.at 12 rfl) rfl rfl ?_
      refine r_get (pc := 75) (tX6_readFactor.at 13 rfl) gf_X6_41 (rdH_0) rfl ?_
      refine r_eq rfl (st2 := [.int (zI (R.vl : Int)), .ref q]) (by rw [zI_nat]; rfl) ?_
      refine r_callV (M' := mX6_emit) (pc := 78) (tX6_readFactor.at 14 rfl) ml_X6_141 rfl mw_X6_emit ⟨by decide, by decide⟩ (rdH_0) rfl rfl (c_emit ok) rfl rfl (Nat.le_of_ble_eq_true rfl) (Nat.le_of_ble_eq_true rfl) (Nat.le_of_ble_eq_true rfl) ?_
      rintro _ _ _ ⟨rfl, rfl, rfl⟩
      refine r_iconst (pc := 81) (w := nI 1) (tX6_readFactor.at 15 rfl) (by decide) ?_
      refine r_zret (pc := 82) (tX6_readFactor.at 16 rfl) rfl (rfl) (Nat.le_of_ble_eq_true rfl) (Nat.le_of_ble_eq_true rfl) ?_
      rw [rdFac, if_pos h1, if_neg (by omega)]
      exact ⟨rfl, rfl, rfl⟩
    · refine r_aload_n (pc := 66) (i := 0) (tX6_readFactor.at 7 rfl) rfl rfl ?_
      refine r_bipush (pc := 67) (w := zI (-3)) (tX6_readFactor.at 8 rfl) (by decide) ?_
      refine r_callV (M' := mX6_fail) (pc := 69) (tX6_readFactor.at 9 rfl) ml_X6_64 rfl mw_X6_fail ⟨by decide, by decide⟩ (rdH_0) rfl rfl (c_fail (c := -3)) rfl rfl (Nat.le_of_ble_eq_true rfl) (Nat.le_of_ble_eq_true rfl) (Nat.le_of_ble_eq_true rfl) ?_
      rintro _ _ _ ⟨rfl, rfl, rfl⟩
      refine r_zret (pc := 72) (tX6_readFactor.at 10 rfl) rfl (rfl) (Nat.le_of_ble_eq_true rfl) (Nat.le_of_ble_eq_true rfl) ?_
      rw [rdFac, if_pos h1, if_pos c]
      exact ⟨rfl, rfl, rfl⟩
  by_cases h2 : R.kd = 263
  · rw [h2]
    refine r_swIn (pc := 4) (off := 79) 83 (tX6_readFactor.at 2 rfl) (by decide) (by decide) (by decide) (by decide) ?_
    refine r_aload_n (pc := 83) (i := 0) (tX6_readFactor.at 17 rfl) rfl rfl ?_
    refine r_iconst (pc := 84) (w := zI (-1)) (tX6_readFactor.at 18 rfl) (by decide) ?_
    refine r_callV (M' := mX6_emit) (pc := 85) (tX6_readFactor.at 19 rfl) ml_X6_141 rfl mw_X6_emit ⟨by decide, by decide⟩ (rdH_0) rfl rfl (c_emit (x := -1) ok) rfl rfl (Nat.le_of_ble_eq_true rfl) (Nat.le_of_ble_eq_true rfl) (Nat.le_of_ble_eq_true rfl) ?_
    rintro _ _ _ ⟨rfl, rfl, rfl⟩
    refine r_iconst (pc := 88) (w := nI 1) (tX6_readFactor.at 20 rfl) (by decide) ?_
    refine r_zret (pc := 89) (tX6_readFactor.at 21 rfl) rfl (rfl) (Nat.le_of_ble_eq_true rfl) (Nat.le_of_ble_eq_true rfl) ?_
    rw [rdFac, if_neg h1, if_pos h2]
    exact ⟨rfl, rfl, rfl⟩
  by_cases h3 : R.kd = 264
  · rw [h3]
    refine r_swIn (pc := 4) (off := 86) 90 (tX6_readFactor.at 2 rfl) (by decide) (by decide) (by decide) (by decide) ?_
    refine r_aload_n (pc := 90) (i := 0) (tX6_readFactor.at 22 rfl) rfl rfl ?_
    refine r_bipush (pc := 91) (w := zI (-2)) (tX6_readFactor.at 23 rfl) (by decide) ?_
    refine r_callV (M' := mX6_emit) (pc := 93) (tX6_readFactor.at 24 rfl) ml_X6_141 rfl mw_X6_emit ⟨by decide, by decide⟩ (rdH_0) rfl rfl (c_emit (x := -2) ok) rfl rfl (Nat.le_of_ble_eq_true rfl) (Nat.le_of_ble_eq_true rfl) (Nat.le_of_ble_eq_true rfl) ?_
    rintro _ _ _ ⟨rfl, rfl, rfl⟩
    refine r_iconst (pc := 96) (w := nI 1) (tX6_readFactor.at 25 rfl) (by decide) ?_
    refine r_zret (pc := 97) (tX6_readFactor.at 26 rfl) rfl (rfl) (Nat.le_of_ble_eq_true rfl) (Nat.le_of_ble_eq_true rfl) ?_
    rw [rdFac, if_neg h1, if_neg h2, if_pos h3]
    exact ⟨rfl, rfl, rfl⟩
  by_cases h5 : R.kd = 265
  · rw [h5]
    refine r_swIn (pc := 4) (off := 94) 98 (tX6_readFactor.at 2 rfl) (by decide) (by decide) (by decide) (by decide) ?_
    refine r_aload_n (pc := 98) (i := 0) (tX6_readFactor.at 27 rfl) rfl rfl ?_
    refine r_bipush (pc := 99) (w := zI (-3)) (tX6_readFactor.at 28 rfl) (by decide) ?_
    refine r_callV (M' := mX6_emit) (pc := 101) (tX6_readFactor.at 29 rfl) ml_X6_141 rfl mw_X6_emit ⟨by decide, by decide⟩ (rdH_0) rfl rfl (c_emit (x := -3) ok) rfl rfl (Nat.le_of_ble_eq_true rfl) (Nat.le_of_ble_eq_true rfl) (Nat.le_of_ble_eq_true rfl) ?_
    rintro _ _ _ ⟨rfl, rfl, rfl⟩
    refine r_iconst (pc := 104) (w := nI 1) (tX6_readFactor.at 30 rfl) (by decide) ?_
    refine r_zret (pc := 105) (tX6_readFactor.at 31 rfl) rfl (rfl) (Nat.le_of_ble_eq_true rfl) (Nat.le_of_ble_eq_true rfl) ?_
    rw [rdFac, if_neg h1, if_neg h2, if_neg h3, if_pos h5]
    exact ⟨rfl, rfl, rfl⟩
  have e : rdFac R = (false, R.fail (-2)) := by rw [rdFac, if_neg h1, if_neg h2, if_neg h3, if_neg h5]
  rw [e]
  have fin : J v mX6_readFactor (rmOf 2 0 0) (KM v (pB v h q top (false, R.fail (-2))) noX 0 0) top 0 0 (rdH v h q R) top 106 [some (.ref q)] [] := by
    refine r_aload_n (pc := 106) (i := 0) (tX6_readFactor.at 32 rfl) rfl rfl ?_
    refine r_bipush (pc := 107) (w := zI (-2)) (tX6_readFactor.at 33 rfl) (by decide) ?_
    refine r_callV (M' := mX6_fail) (pc := 109) (tX6_readFactor.at 34 rfl) ml_X6_64 rfl mw_X6_fail ⟨by decide, by decide⟩ (rdH_0) rfl rfl (c_fail (c := -2)) rfl rfl (Nat.le_of_ble_eq_true rfl) (Nat.le_of_ble_eq_true rfl) (Nat.le_of_ble_eq_true rfl) ?_
    rintro _ _ _ ⟨rfl, rfl, rfl⟩
    refine r_zret (pc := 112) (tX6_readFactor.at 35 rfl) rfl (rfl) (Nat.le_of_ble_eq_true rfl) (Nat.le_of_ble_eq_true rfl) ?_
    exact ⟨rfl, rfl, rfl⟩
  by_cases h6 : 257 ≤ R.kd ∧ R.kd ≤ 265
  · have h7 : R.kd = 258 ∨ R.kd = 259 ∨ R.kd = 260 ∨ R.kd = 261 ∨ R.kd = 262 := by omega
    rcases h7 with h7 | h7 | h7 | h7 | h7 <;> (rw [h7]; exact r_swIn (pc := 4) (off := 102) 106 (tX6_readFactor.at 2 rfl) (by decide) (by decide) (by decide) (by decide) fin)
  · exact r_swOut (pc := 4) 106 (tX6_readFactor.at 2 rfl) (by rw [ei]; omega) (by decide) fin
/-- putEdge, which refuses a 16th edge -/
def GT.adE (G : GT) (a b w : Nat) : GT := if G.e < 15 then G.addE a b w else G
theorem c_putE2 {v : Ev} {h : Hp} {top g : Nat} {G : GT} (he : G.e ≤ 15) {a b w : Nat} (ha : a < 6) (hb : b < 6) : Cal v mX3_putEdge 2 0 0 [.ref g, .int (nI a), .int (nI b), .int (nI w)] (gH v h g G) top (pV (gH v h g (G.adE a b w)) top) noX := by
  by_cases c : G.e < 15
  · rw [GT.adE, if_pos c]
    exact c_putE c ha hb
  · rw [GT.adE, if_neg c]
    refine Cal.ofJ (by decide +kernel) rfl (Nat.le_of_ble_eq_true rfl) fun hz0 => ?_
    refine r_ls [some (.ref g), some (.int (nI a)), some (.int (nI b)), some (.int (nI w))] rfl ?_
    have hg := gH_is v h g G
    refine r_aload_n (pc := 0) (i := 0) (tX3_putEdge.at 0 rfl) rfl rfl ?_
    refine r_get (pc := 1) (tX3_putEdge.at 1 rfl) gf_X3_15 (hg.1) rfl ?_
    refine r_bipush (pc := 4) (w := nI 15) (tX3_putEdge.at 2 rfl) (by decide) ?_
    refine r_icmp_geN (pc := 6) 54 (tX3_putEdge.at 3 rfl) (by decide) (by omega) (by omega) (fun _ => ?_) (fun c => by omega)
    refine r_vret (pc := 54) (tX3_putEdge.at 31 rfl) rfl (Nat.le_of_ble_eq_true rfl) (Nat.le_of_ble_eq_true rfl) ?_
    exact ⟨rfl, rfl, rfl⟩
theorem okG.adE {G : GT} (h : okG G) {a b w : Nat} (hw : w ≤ 9) : okG (G.adE a b w) := by
  unfold GT.adE
  split
  · next c =>
    obtain ⟨h1, h2, h3, h4, h5⟩ := h
    refine ⟨h1, c, h3, h4, fun k hk => ?_⟩
    show upN (upN G.W (a * 6 + b) w) (b * 6 + a) w k ≤ 9
    unfold upN
    split
    · exact hw
    · split
      · exact hw
      · exact h5 k hk
  · exact h
theorem numL_le (B : Nat → Nat) (c : Nat) : ∀ n, n ≤ 6 → (∀ k, k < 6 → B k ≤ c) → (numL B n).2 ≤ n ∧ (∀ k, k < 6 → (numL B n).1 k ≤ max c 6) ∧ ∀ k, k < n → (numL B n).1 k < (numL B n).2
  | 0, _, h => ⟨Nat.le_refl _, fun k hk => by have := h k hk; show B k ≤ _; omega, fun k hk => by omega⟩
  | n + 1, hn, h => by
    obtain ⟨h1, h2, h3⟩ := numL_le B c n (by omega) h
    rw [numL]
    split
    · next q =>
      have h4 := h3 _ q
      refine ⟨by show (numL B n).2 ≤ _; omega, fun k hk => ?_, fun k hk => ?_⟩
      · show upN _ n _ k ≤ _
        unfold upN
        split
        · exact h2 _ (by omega)
        · exact h2 k hk
      · show upN _ n _ k < (numL B n).2
        unfold upN
        split
        · exact h4
        · exact h3 k (by omega)
    · refine ⟨by show (numL B n).2 + 1 ≤ _; omega, fun k hk => ?_, fun k hk => ?_⟩
      · show upN _ n _ k ≤ _
        unfold upN
        split
        · omega
        · exact h2 k hk
      · show upN _ n _ k < (numL B n).2 + 1
        unfold upN
        split
        · omega
        · have := h3 k (by omega)
          omega
theorem okG.num {G : GT} (hn : G.n ≤ 6) (he : G.e ≤ 15) (ha : G.a < 64) (hB : ∀ k, k < 6 → G.B k ≤ 6) (hW : ∀ k, k < 36 → G.W k ≤ 9) : okG G.num := by
  obtain ⟨h1, h2, -⟩ := numL_le G.B 6 G.n hn hB
  exact ⟨hn, he, ha, fun k hk => by have := h2 k hk; show (numL G.B G.n).1 k ≤ 6; omega, hW⟩
theorem okG.unite {G : GT} (h : okG G) {a b : Nat} (ha : a < 6) : okG (G.unite a b) := by
  obtain ⟨h1, h2, h3, h4, h5⟩ := h
  refine okG.num h1 h2 h3 (fun k hk => ?_) h5
  show unB G.B a b G.n k ≤ 6
  unfold unB
  split
  · exact h4 a ha
  · exact h4 k hk
theorem okG.isol {G : GT} (h : okG G) {a : Nat} : okG (G.isol a) := by
  obtain ⟨h1, h2, h3, h4, h5⟩ := h
  refine okG.num h1 h2 h3 (fun k hk => ?_) h5
  show upN G.B a 6 k ≤ 6
  unfold upN
  split
  · omega
  · exact h4 k hk
theorem rdNum_t {a b : Nat} {R : RD} (h : (rdNum a b R).1 = true) : (rdNum a b R).2 = R.take ∧ a ≤ R.take.vl ∧ R.take.vl ≤ b := by
  unfold rdNum at h ⊢
  split
  · next c => rw [if_pos c] at h; cases h
  · next c =>
    rw [if_neg c] at h
    split
    · next c2 => rw [if_pos c2] at h; cases h
    · exact ⟨rfl, by omega, by omega⟩
theorem rdVtx_t {R : RD} (h : (rdVtx R).1 = true) (hn : 1 ≤ R.G.n) : (rdVtx R).2 = R.take ∧ (rdVtx R).2.vl < R.G.n ∧ (rdVtx R).2.G = R.G := by
  obtain ⟨h1, h2, h3⟩ := rdNum_t h
  have e : (rdVtx R).2 = R.take := h1
  rw [e]
  exact ⟨rfl, by omega, rfl⟩
theorem rdH_self {v : Ev} {h : Hp} {q : Nat} {R : RD} : gH v (rdH v h q R) (q + 6) R.G = rdH v h q R := gH_self rdH_G
def rdEdge (R : RD) : Bool × RD :=
  if (rdVtx R).1 = false then (false, (rdVtx R).2)
  else if (rdVtx (rdVtx R).2).1 = false then (false, (rdVtx (rdVtx R).2).2)
  else if (rdVtx R).2.vl = (rdVtx (rdVtx R).2).2.vl ∨ R.G.W ((rdVtx R).2.vl * 6 + (rdVtx (rdVtx R).2).2.vl) ≠ 0 then (false, (rdVtx (rdVtx R).2).2.fail (-4))
  else if (rdNum 1 9 (rdVtx (rdVtx R).2).2).1 = false then (false, (rdNum 1 9 (rdVtx (rdVtx R).2).2).2)
  else (true, (rdNum 1 9 (rdVtx (rdVtx R).2).2).2.sG (R.G.adE (rdVtx R).2.vl (rdVtx (rdVtx R).2).2.vl (rdNum 1 9 (rdVtx (rdVtx R).2).2).2.vl))
theorem bT {x : Bool} (h : ¬ x = false) : x = true := by cases x <;> simp_all
theorem rdEdge_ok {R : RD} (h : okR R) : okR (rdEdge R).2 := by
  have h1 : okR (rdVtx R).2 := rdNum_ok h
  have h2 : okR (rdVtx (rdVtx R).2).2 := rdNum_ok h1
  have h3 : okR (rdNum 1 9 (rdVtx (rdVtx R).2).2).2 := rdNum_ok h2
  unfold rdEdge
  split
  · exact h1
  · split
    · exact h2
    · split
      · exact RD.fail_ok h2 _
      · split
        · exact h3
        · next c =>
          obtain ⟨g1, g2, g3⟩ := rdNum_t (bT c)
          refine RD.sG_ok h3 (okG.adE h.2.2.1 ?_)
          rw [g1]
          exact g3
theorem c_rdEdge {v : Ev} {h : Hp} {top q : Nat} {R : RD} (ok : okR R) (hn : 1 ≤ R.G.n) : Cal v mX6_readEdge 4 0 0 [.ref q] (rdH v h q R) top (pB v h q top (rdEdge R)) noX := by
  have h1 : okR (rdVtx R).2 := rdNum_ok ok
  have h2 : okR (rdVtx (rdVtx R).2).2 := rdNum_ok h1
  have h3 : okR (rdNum 1 9 (rdVtx (rdVtx R).2).2).2 := rdNum_ok h2
  have hn6 : R.G.n ≤ 6 := ok.2.2.1.1
  refine Cal.ofJ (by decide +kernel) rfl (Nat.le_of_ble_eq_true rfl) fun hz0 => ?_
  refine r_ls [some (.ref q), none, none] rfl ?_
  refine r_aload_n (pc := 0) (i := 0) (tX6_readEdge.at 0 rfl) rfl rfl ?_
  refine r_callV (M' := mX6_readVertex) (pc := 1) (tX6_readEdge.at 1 rfl) ml_X6_98 rfl mw_X6_readVertex ⟨by decide, by decide⟩ (rdH_0) rfl rfl (c_rdVtx ok hn) rfl rfl (Nat.le_of_ble_eq_true rfl) (Nat.le_of_ble_eq_true rfl) (Nat.le_of_ble_eq_true rfl) ?_
  rintro _ _ _ ⟨rfl, rfl, rfl⟩
  by_cases c1 : (rdVtx R).1 = false
  · rw [rdEdge, if_pos c1]
    rw [c1]
    refine r_if_neN (pc := 4) 9 (tX6_readEdge.at 2 rfl) (by decide) (by decide) (fun z => absurd rfl z) (fun _ => ?_)
    refine r_iconst (pc := 7) (w := nI 0) (tX6_readEdge.at 3 rfl) (by decide) ?_
    refine r_zret (pc := 8) (tX6_readEdge.at 4 rfl) rfl (rfl) (Nat.le_of_ble_eq_true rfl) (Nat.le_of_ble_eq_true rfl) ?_
    exact ⟨rfl, rfl, rfl⟩
  have d1 := bT c1
  obtain ⟨-, e2, e3⟩ := rdVtx_t d1 hn
  rw [rdEdge, if_neg c1]
  rw [d1]
  refine r_if_neN (pc := 4) 9 (tX6_readEdge.at 2 rfl) (by decide) (by decide) (fun _ => ?_) (fun z => absurd z (by decide))
  refine r_aload_n (pc := 9) (i := 0) (tX6_readEdge.at 5 rfl) rfl rfl ?_
  refine r_get (pc := 10) (tX6_readEdge.at 6 rfl) gf_X6_41 (rdH_0) rfl ?_
  refine r_istore_n (pc := 13) (i := 1) (tX6_readEdge.at 7 rfl) rfl (by decide) ?_
  refine r_aload_n (pc := 14) (i := 0) (tX6_readEdge.at 8 rfl) rfl rfl ?_
  refine r_callV (M' := mX6_readVertex) (pc := 15) (tX6_readEdge.at 9 rfl) ml_X6_98 rfl mw_X6_readVertex ⟨by decide, by decide⟩ (rdH_0) rfl rfl (c_rdVtx h1 (by rw [e3]; exact hn)) rfl rfl (Nat.le_of_ble_eq_true rfl) (Nat.le_of_ble_eq_true rfl) (Nat.le_of_ble_eq_true rfl) ?_
  rintro _ _ _ ⟨rfl, rfl, rfl⟩
  rw [show ((rdVtx R).2.1.2.1.2.2) = (rdVtx R).2.vl from rfl]
  by_cases c2 : (rdVtx (rdVtx R).2).1 = false
  · rw [if_pos c2]
    rw [c2]
    refine r_if_neN (pc := 18) 23 (tX6_readEdge.at 10 rfl) (by decide) (by decide) (fun z => absurd rfl z) (fun _ => ?_)
    refine r_iconst (pc := 21) (w := nI 0) (tX6_readEdge.at 11 rfl) (by decide) ?_
    refine r_zret (pc := 22) (tX6_readEdge.at 12 rfl) rfl (rfl) (Nat.le_of_ble_eq_true rfl) (Nat.le_of_ble_eq_true rfl) ?_
    exact ⟨rfl, rfl, rfl⟩
  have d2 := bT c2
  obtain ⟨-, f2, f3⟩ := rdVtx_t d2 (by rw [e3]; exact hn)
  rw [if_neg c2]
  rw [d2]
  refine r_if_neN (pc := 18) 23 (tX6_readEdge.at 10 rfl) (by decide) (by decide) (fun _ => ?_) (fun z => absurd z (by decide))
  have hG2 : (rdVtx (rdVtx R).2).2.G = R.G := f3.trans e3
  rw [e3] at f2
  generalize (rdVtx R).2.vl = x at e2 ⊢
  generalize hR2 : (rdVtx (rdVtx R).2).2 = R2 at h2 h3 f2 hG2 ⊢
  refine r_aload_n (pc := 23) (i := 0) (tX6_readEdge.at 13 rfl) rfl rfl ?_
  refine r_get (pc := 24) (tX6_readEdge.at 14 rfl) gf_X6_41 (rdH_0) rfl ?_
  refine r_istore_n (pc := 27) (i := 2) (tX6_readEdge.at 15 rfl) rfl (by decide) ?_
  rw [show R2.1.2.1.2.2 = R2.vl from rfl]
  have hw := ok.2.2.1.2.2.2.2 (x * 6 + R2.vl) (by omega)
  have bad : ∀ (w1 w2 : Option Value), x = R2.vl ∨ R.G.W (x * 6 + R2.vl) ≠ 0 → J v mX6_readEdge (rmOf 4 0 0) (KM v (pB v h q top (if x = R2.vl ∨ R.G.W (x * 6 + R2.vl) ≠ 0 then (false, R2.fail (-4)) else if (rdNum 1 9 R2).1 = false then (false, (rdNum 1 9 R2).2) else (true, (rdNum 1 9 R2).2.sG (R.G.adE x R2.vl (rdNum 1 9 R2).2.vl)))) noX 0 0) top 0 0 (rdH v h q R2) top 45 [some (.ref q), w1, w2] [] := by
    intro w1 w2 c
    rw [if_pos c]
    refine r_aload_n (pc := 45) (i := 0) (tX6_readEdge.at 25 rfl) rfl rfl ?_
    refine r_bipush (pc := 46) (w := zI (-4)) (tX6_readEdge.at 26 rfl) (by decide) ?_
    refine r_callV (M' := mX6_fail) (pc := 48) (tX6_readEdge.at 27 rfl) ml_X6_64 rfl mw_X6_fail ⟨by decide, by decide⟩ (rdH_0) rfl rfl (c_fail (c := -4)) rfl rfl (Nat.le_of_ble_eq_true rfl) (Nat.le_of_ble_eq_true rfl) (Nat.le_of_ble_eq_true rfl) ?_
    rintro _ _ _ ⟨rfl, rfl, rfl⟩
    refine r_zret (pc := 51) (tX6_readEdge.at 28 rfl) rfl (rfl) (Nat.le_of_ble_eq_true rfl) (Nat.le_of_ble_eq_true rfl) ?_
    exact ⟨rfl, rfl, rfl⟩
  refine r_iload_n (pc := 28) (i := 1) (tX6_readEdge.at 16 rfl) rfl rfl ?_
  refine r_iload_n (pc := 29) (i := 2) (tX6_readEdge.at 17 rfl) rfl rfl ?_
  refine r_icmp_eqN (pc := 30) 45 (tX6_readEdge.at 18 rfl) (by decide) (by omega) (by omega) (fun c3 => ?_) (fun c3 => ?_)
  · exact bad _ _ (Or.inl c3)
  · refine r_aload_n (pc := 33) (i := 0) (tX6_readEdge.at 19 rfl) rfl rfl ?_
    refine r_get (pc := 34) (tX6_readEdge.at 20 rfl) gf_X6_21 (rdH_0) rfl ?_
    refine r_iload_n (pc := 37) (i := 1) (tX6_readEdge.at 21 rfl) rfl rfl ?_
    refine r_iload_n (pc := 38) (i := 2) (tX6_readEdge.at 22 rfl) rfl rfl ?_
    refine r_callV (M' := mX3_weightBetween) (pc := 39) (tX6_readEdge.at 23 rfl) ml_X6_101 rfl mw_X3_weightBetween ⟨by decide, by decide⟩ (rdH_G.1) rfl rfl (c_wb rdH_G (a := x) (b := R2.vl) (by omega)) rfl rfl (Nat.le_of_ble_eq_true rfl) (Nat.le_of_ble_eq_true rfl) (Nat.le_of_ble_eq_true rfl) ?_
    rintro _ _ _ ⟨rfl, rfl, rfl⟩
    rw [hG2]
    refine r_if_eqN (pc := 42) 52 (tX6_readEdge.at 24 rfl) (by decide) (by omega) (fun c4 => ?_) (fun c4 => ?_)
    · rw [if_neg (by omega)]
      refine r_aload_n (pc := 52) (i := 0) (tX6_readEdge.at 29 rfl) rfl rfl ?_
      refine r_iconst (pc := 53) (w := nI 1) (tX6_readEdge.at 30 rfl) (by decide) ?_
      refine r_bipush (pc := 54) (w := nI 9) (tX6_readEdge.at 31 rfl) (by decide) ?_
      refine r_callV (M' := mX6_readNumber) (pc := 56) (tX6_readEdge.at 32 rfl) ml_X6_68 rfl mw_X6_readNumber ⟨by decide, by decide⟩ (rdH_0) rfl rfl (c_rdNum h2 (by omega) (by omega)) rfl rfl (Nat.le_of_ble_eq_true rfl) (Nat.le_of_ble_eq_true rfl) (Nat.le_of_ble_eq_true rfl) ?_
      rintro _ _ _ ⟨rfl, rfl, rfl⟩
      by_cases c5 : (rdNum 1 9 R2).1 = false
      · rw [if_pos c5, c5]
        refine r_if_neN (pc := 59) 64 (tX6_readEdge.at 33 rfl) (by decide) (by decide) (fun z => absurd rfl z) (fun _ => ?_)
        refine r_iconst (pc := 62) (w := nI 0) (tX6_readEdge.at 34 rfl) (by decide) ?_
        refine r_zret (pc := 63) (tX6_readEdge.at 35 rfl) rfl (rfl) (Nat.le_of_ble_eq_true rfl) (Nat.le_of_ble_eq_true rfl) ?_
        exact ⟨rfl, rfl, rfl⟩
      have d5 := bT c5
      rw [if_neg c5, d5]
      refine r_if_neN (pc := 59) 64 (tX6_readEdge.at 33 rfl) (by decide) (by decide) (fun _ => ?_) (fun z => absurd z (by decide))
      obtain ⟨g1, -, -⟩ := rdNum_t d5
      have hG3 : (rdNum 1 9 R2).2.G = R.G := by rw [g1]; exact hG2
      generalize (rdNum 1 9 R2).2 = R3 at h3 hG3 ⊢
      have k := c_putE2 (v := v) (h := rdH v h q R3) (top := top) (g := q + 6) (G := R3.G) (w := R3.vl) (a := x) (b := R2.vl) h3.2.2.1.2.1 (by omega) (by omega)
      rw [rdH_self, rdH_pG, hG3] at k
      refine r_aload_n (pc := 64) (i := 0) (tX6_readEdge.at 36 rfl) rfl rfl ?_
      refine r_get (pc := 65) (tX6_readEdge.at 37 rfl) gf_X6_21 (rdH_0) rfl ?_
      refine r_iload_n (pc := 68) (i := 1) (tX6_readEdge.at 38 rfl) rfl rfl ?_
      refine r_iload_n (pc := 69) (i := 2) (tX6_readEdge.at 39 rfl) rfl rfl ?_
      refine r_aload_n (pc := 70) (i := 0) (tX6_readEdge.at 40 rfl) rfl rfl ?_
      refine r_get (pc := 71) (tX6_readEdge.at 41 rfl) gf_X6_41 (rdH_0) rfl ?_
      refine r_callV (M' := mX3_putEdge) (pc := 74) (tX6_readEdge.at 42 rfl) ml_X6_105 rfl mw_X3_putEdge ⟨by decide, by decide⟩ (rdH_G.1) rfl rfl (k) rfl rfl (Nat.le_of_ble_eq_true rfl) (Nat.le_of_ble_eq_true rfl) (Nat.le_of_ble_eq_true rfl) ?_
      rintro _ _ _ ⟨rfl, rfl, rfl⟩
      refine r_iconst (pc := 77) (w := nI 1) (tX6_readEdge.at 43 rfl) (by decide) ?_
      refine r_zret (pc := 78) (tX6_readEdge.at 44 rfl) rfl (rfl) (Nat.le_of_ble_eq_true rfl) (Nat.le_of_ble_eq_true rfl) ?_
      exact ⟨rfl, rfl, rfl⟩
    · exact bad _ _ (Or.inr c4)

