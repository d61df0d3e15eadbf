/-! ===== Graph: its cells, and the reads ===== -/
/-- what a graph is told by: vertices, edges, absorbing, blocks; low, high, weights, block, oldBlock; the formula's address -/
abbrev GT : Type := (Nat × Nat × Nat × Nat) × ((Nat → Nat) × (Nat → Nat) × (Nat → Nat) × (Nat → Nat) × (Nat → Nat)) × Nat
def GT.n (G : GT) : Nat := G.1.1
def GT.e (G : GT) : Nat := G.1.2.1
def GT.a (G : GT) : Nat := G.1.2.2.1
def GT.b (G : GT) : Nat := G.1.2.2.2
def GT.L (G : GT) : Nat → Nat := G.2.1.1
def GT.H (G : GT) : Nat → Nat := G.2.1.2.1
def GT.W (G : GT) : Nat → Nat := G.2.1.2.2.1
def GT.B (G : GT) : Nat → Nat := G.2.1.2.2.2.1
def GT.O (G : GT) : Nat → Nat := G.2.1.2.2.2.2
def GT.F (G : GT) : Nat := G.2.2
def gFs (g : Nat) (G : GT) : List Value := [.int (nI G.n), .int (nI G.e), .int (nI G.a), .int (nI G.b), .ref (g + 1), .ref (g + 2), .ref (g + 3), .ref (g + 4), .ref (g + 5), .ref G.F]
def isG (v : Ev) (h : Hp) (g : Nat) (G : GT) : Prop := h g = some (ob 3 (gFs g G)) ∧ h (g + 1) = some (aI v 15 (iF G.L)) ∧ h (g + 2) = some (aI v 15 (iF G.H)) ∧ h (g + 3) = some (aI v 36 (iF G.W)) ∧ h (g + 4) = some (aI v 6 (iF G.B)) ∧ h (g + 5) = some (aI v 6 (iF G.O))
theorem c_wb {v : Ev} {h : Hp} {top g : Nat} {G : GT} (hg : isG v h g G) {a b : Nat} (hi : a * 6 + b < 36) : Cal v mX3_weightBetween 1 0 0 [.ref g, .int (nI a), .int (nI b)] h top (pR (.int (nI (G.W (a * 6 + b)))) h top) noX := by
  refine Cal.ofJ (by decide +kernel) rfl (Nat.le_of_ble_eq_true rfl) fun hz0 => ?_
  refine r_ls [some (.ref g), some (.int (nI a)), some (.int (nI b))] rfl ?_
  refine r_aload_n (pc := 0) (i := 0) (tX3_weightBetween.at 0 rfl) rfl rfl ?_
  refine r_get (pc := 1) (tX3_weightBetween.at 1 rfl) gf_X3_31 (hg.1) rfl ?_
  refine r_iload_n (pc := 4) (i := 1) (tX3_weightBetween.at 2 rfl) rfl rfl ?_
  refine r_bipush (pc := 5) (w := nI 6) (tX3_weightBetween.at 3 rfl) (by decide) ?_
  first | refine r_imulN (pc := 7) (tX3_weightBetween.at 4 rfl) ?_ | refine r_imul (pc := 7) (tX3_weightBetween.at 4 rfl) ?_
  refine r_iload_n (pc := 8) (i := 2) (tX3_weightBetween.at 5 rfl) rfl rfl ?_
  first | refine r_iaddN (pc := 9) (tX3_weightBetween.at 6 rfl) ?_ | refine r_iadd (pc := 9) (tX3_weightBetween.at 6 rfl) ?_
  refine r_iald (pc := 10) (tX3_weightBetween.at 7 rfl) (hg.2.2.2.1) (a * 6 + b) (rfl) (by omega) (Nat.le_of_ble_eq_true rfl) ?_
  refine r_iret (pc := 11) (tX3_weightBetween.at 8 rfl) rfl (Nat.le_of_ble_eq_true rfl) (Nat.le_of_ble_eq_true rfl) ?_
  exact ⟨rfl, rfl, rfl⟩
/-- the sum of the weights of a vertex, over the first n -/
def degN (W : Nat → Nat) (x n : Nat) : Nat := sN (fun u => W (x * 6 + u)) n
theorem c_sow {v : Ev} {h : Hp} {top g : Nat} {G : GT} (hg : isG v h g G) (hn : G.n ≤ 6) {x : Nat} (hx : x < 6) : Cal v mX3_sumOfWeights 2 0 0 [.ref g, .int (nI x)] h top (pR (.int (nI (degN G.W x G.n))) h top) noX := by
  refine Cal.ofJ (by decide +kernel) rfl (Nat.le_of_ble_eq_true rfl) fun hz0 => ?_
  refine r_ls [some (.ref g), some (.int (nI x)), none, none] rfl ?_
  refine r_iconst (pc := 0) (w := nI 0) (tX3_sumOfWeights.at 0 rfl) (by decide) ?_
  refine r_istore_n (pc := 1) (i := 2) (tX3_sumOfWeights.at 1 rfl) rfl (by decide) ?_
  refine r_iconst (pc := 2) (w := nI 0) (tX3_sumOfWeights.at 2 rfl) (by decide) ?_
  refine r_istore_n (pc := 3) (i := 3) (tX3_sumOfWeights.at 3 rfl) rfl (by decide) ?_
  have loop : ∀ k u : Nat, u + k = G.n → J v mX3_sumOfWeights (rmOf 2 0 0) (KM v (pR (.int (nI (degN G.W x G.n))) h top) noX 0 0) top 0 0 h top 4 [some (.ref g), some (.int (nI x)), some (.int (nI (degN G.W x u))), some (.int (nI u))] [] := by
    intro k
    induction k with
    | zero =>
      intro u hu
      have hu : u = G.n := by omega
      subst hu
      refine r_iload_n (pc := 4) (i := 3) (tX3_sumOfWeights.at 4 rfl) rfl rfl ?_
      refine r_aload_n (pc := 5) (i := 0) (tX3_sumOfWeights.at 5 rfl) rfl rfl ?_
      refine r_get (pc := 6) (tX3_sumOfWeights.at 6 rfl) gf_X3_9 (hg.1) rfl ?_
      refine r_icmp_geN (pc := 9) 27 (tX3_sumOfWeights.at 7 rfl) (by decide) (by omega) (by omega) (fun _ => ?_) (fun c => by omega)
      refine r_iload_n (pc := 27) (i := 2) (tX3_sumOfWeights.at 17 rfl) rfl rfl ?_
      refine r_iret (pc := 28) (tX3_sumOfWeights.at 18 rfl) rfl (Nat.le_of_ble_eq_true rfl) (Nat.le_of_ble_eq_true rfl) ?_
      exact ⟨rfl, rfl, rfl⟩
    | succ k ih =>
      intro u hu
      refine r_iload_n (pc := 4) (i := 3) (tX3_sumOfWeights.at 4 rfl) rfl rfl ?_
      refine r_aload_n (pc := 5) (i := 0) (tX3_sumOfWeights.at 5 rfl) rfl rfl ?_
      refine r_get (pc := 6) (tX3_sumOfWeights.at 6 rfl) gf_X3_9 (hg.1) rfl ?_
      refine r_icmp_geN (pc := 9) 27 (tX3_sumOfWeights.at 7 rfl) (by decide) (by omega) (by omega) (fun c => by omega) (fun _ => ?_)
      refine r_iload_n (pc := 12) (i := 2) (tX3_sumOfWeights.at 8 rfl) rfl rfl ?_
      refine r_aload_n (pc := 13) (i := 0) (tX3_sumOfWeights.at 9 rfl) rfl rfl ?_
      refine r_iload_n (pc := 14) (i := 1) (tX3_sumOfWeights.at 10 rfl) rfl rfl ?_
      refine r_iload_n (pc := 15) (i := 3) (tX3_sumOfWeights.at 11 rfl) rfl rfl ?_
      refine r_callV (M' := mX3_weightBetween) (pc := 16) (tX3_sumOfWeights.at 12 rfl) ml_X3_71 rfl mw_X3_weightBetween ⟨by decide, by decide⟩ (hg.1) rfl rfl (c_wb hg (a := x) (b := u) (by omega)) rfl rfl (Nat.le_of_ble_eq_true rfl) (Nat.le_of_ble_eq_true rfl) (Nat.le_of_ble_eq_true rfl) ?_
      rintro _ _ _ ⟨rfl, rfl, rfl⟩
      first | refine r_iaddN (pc := 19) (tX3_sumOfWeights.at 13 rfl) ?_ | refine r_iadd (pc := 19) (tX3_sumOfWeights.at 13 rfl) ?_
      refine r_istore_n (pc := 20) (i := 2) (tX3_sumOfWeights.at 14 rfl) rfl (by decide) ?_
      first | refine r_iincN (pc := 21) (tX3_sumOfWeights.at 15 rfl) rfl (by decide) ?_ | refine r_iinc (pc := 21) (tX3_sumOfWeights.at 15 rfl) rfl rfl (by decide) ?_
      refine r_goto (pc := 24) 4 (tX3_sumOfWeights.at 16 rfl) (by decide) ?_
      exact ih (u + 1) (by omega)
  exact loop G.n 0 (by omega)

