/-! ===== Graph: its cells, reads and changes ===== -/
/-- what a graph is told by: vertices, edges, absorbing, blocks; low, high, weights, block, oldBlock; the formula's address -/
abbrev GT : Type := (Nat × Nat × Nat × Nat) × ((Nat → Nat) × (Nat → Nat) × (Nat → Nat) × (Nat → Nat) × (Nat → Nat)) × Nat
def GT.n (G : GT) : Nat := G.1.1
def GT.e (G : GT) : Nat := G.1.2.1
def GT.a (G : GT) : Nat := G.1.2.2.1
def GT.b (G : GT) : Nat := G.1.2.2.2
def GT.L (G : GT) : Nat → Nat := G.2.1.1
def GT.H (G : GT) : Nat → Nat := G.2.1.2.1
def GT.W (G : GT) : Nat → Nat := G.2.1.2.2.1
def GT.B (G : GT) : Nat → Nat := G.2.1.2.2.2.1
def GT.O (G : GT) : Nat → Nat := G.2.1.2.2.2.2
def GT.F (G : GT) : Nat := G.2.2
def gFs (g : Nat) (G : GT) : List Value := [.int (nI G.n), .int (nI G.e), .int (nI G.a), .int (nI G.b), .ref (g + 1), .ref (g + 2), .ref (g + 3), .ref (g + 4), .ref (g + 5), .ref G.F]
def isG (v : Ev) (h : Hp) (g : Nat) (G : GT) : Prop := h g = some (ob 3 (gFs g G)) ∧ h (g + 1) = some (aI v 15 (iF G.L)) ∧ h (g + 2) = some (aI v 15 (iF G.H)) ∧ h (g + 3) = some (aI v 36 (iF G.W)) ∧ h (g + 4) = some (aI v 6 (iF G.B)) ∧ h (g + 5) = some (aI v 6 (iF G.O))
theorem isG.frame {v : Ev} {h h' : Hp} {g : Nat} {G : GT} (hg : isG v h g G) (hf : ∀ q, g ≤ q → q < g + 6 → h' q = h q) : isG v h' g G := by
  obtain ⟨h0, h1, h2, h3, h4, h5⟩ := hg
  exact ⟨by rw [hf _ (by omega) (by omega)]; exact h0, by rw [hf _ (by omega) (by omega)]; exact h1, by rw [hf _ (by omega) (by omega)]; exact h2, by rw [hf _ (by omega) (by omega)]; exact h3, by rw [hf _ (by omega) (by omega)]; exact h4, by rw [hf _ (by omega) (by omega)]; exact h5⟩
theorem isG.put {v : Ev} {h : Hp} {g a : Nat} {e : va_E} {G : GT} (hg : isG v h g G) (ha : a < g ∨ g + 6 ≤ a) : isG v (hp h a e) g G := hg.frame (fun q _ _ => hp_ne h e (by omega))
/-- the scalars anew -/
def GT.sc (G : GT) (n e a b : Nat) : GT := ((n, e, a, b), G.2)
def GT.sW (G : GT) (W : Nat → Nat) : GT := (G.1, (G.L, G.H, W, G.B, G.O), G.F)
def GT.sB (G : GT) (B : Nat → Nat) : GT := (G.1, (G.L, G.H, G.W, B, G.O), G.F)
def GT.sL (G : GT) (L : Nat → Nat) : GT := (G.1, (L, G.H, G.W, G.B, G.O), G.F)
def GT.sH (G : GT) (H : Nat → Nat) : GT := (G.1, (G.L, H, G.W, G.B, G.O), G.F)
def GT.sO (G : GT) (O : Nat → Nat) : GT := (G.1, (G.L, G.H, G.W, G.B, O), G.F)
def GT.sF (G : GT) (F : Nat) : GT := (G.1, G.2.1, F)
theorem hp6 (h : Hp) {a q : Nat} (e : va_E) (n : q ≠ a) {x : Option va_E} (hx : h q = x) : hp h a e q = x := (hp_ne h e n).trans hx
theorem isG.p0 {v : Ev} {h : Hp} {g : Nat} {G : GT} (hg : isG v h g G) (n e a b : Nat) : isG v (hp h g (ob 3 (gFs g (G.sc n e a b)))) g (G.sc n e a b) :=
  ⟨hp_eq _ _ _, hp6 h _ (by omega) hg.2.1, hp6 h _ (by omega) hg.2.2.1, hp6 h _ (by omega) hg.2.2.2.1, hp6 h _ (by omega) hg.2.2.2.2.1, hp6 h _ (by omega) hg.2.2.2.2.2⟩
theorem isG.pF {v : Ev} {h : Hp} {g : Nat} {G : GT} (hg : isG v h g G) (F : Nat) : isG v (hp h g (ob 3 (gFs g (G.sF F)))) g (G.sF F) :=
  ⟨hp_eq _ _ _, hp6 h _ (by omega) hg.2.1, hp6 h _ (by omega) hg.2.2.1, hp6 h _ (by omega) hg.2.2.2.1, hp6 h _ (by omega) hg.2.2.2.2.1, hp6 h _ (by omega) hg.2.2.2.2.2⟩
theorem isG.pL {v : Ev} {h : Hp} {g : Nat} {G : GT} (hg : isG v h g G) (L : Nat → Nat) : isG v (hp h (g + 1) (aI v 15 (iF L))) g (G.sL L) :=
  ⟨hp6 h _ (by omega) hg.1, hp_eq _ _ _, hp6 h _ (by omega) hg.2.2.1, hp6 h _ (by omega) hg.2.2.2.1, hp6 h _ (by omega) hg.2.2.2.2.1, hp6 h _ (by omega) hg.2.2.2.2.2⟩
theorem isG.pH {v : Ev} {h : Hp} {g : Nat} {G : GT} (hg : isG v h g G) (L : Nat → Nat) : isG v (hp h (g + 2) (aI v 15 (iF L))) g (G.sH L) :=
  ⟨hp6 h _ (by omega) hg.1, hp6 h _ (by omega) hg.2.1, hp_eq _ _ _, hp6 h _ (by omega) hg.2.2.2.1, hp6 h _ (by omega) hg.2.2.2.2.1, hp6 h _ (by omega) hg.2.2.2.2.2⟩
theorem isG.pW {v : Ev} {h : Hp} {g : Nat} {G : GT} (hg : isG v h g G) (W : Nat → Nat) : isG v (hp h (g + 3) (aI v 36 (iF W))) g (G.sW W) :=
  ⟨hp6 h _ (by omega) hg.1, hp6 h _ (by omega) hg.2.1, hp6 h _ (by omega) hg.2.2.1, hp_eq _ _ _, hp6 h _ (by omega) hg.2.2.2.2.1, hp6 h _ (by omega) hg.2.2.2.2.2⟩
theorem isG.pB {v : Ev} {h : Hp} {g : Nat} {G : GT} (hg : isG v h g G) (B : Nat → Nat) : isG v (hp h (g + 4) (aI v 6 (iF B))) g (G.sB B) :=
  ⟨hp6 h _ (by omega) hg.1, hp6 h _ (by omega) hg.2.1, hp6 h _ (by omega) hg.2.2.1, hp6 h _ (by omega) hg.2.2.2.1, hp_eq _ _ _, hp6 h _ (by omega) hg.2.2.2.2.2⟩
theorem isG.pO {v : Ev} {h : Hp} {g : Nat} {G : GT} (hg : isG v h g G) (B : Nat → Nat) : isG v (hp h (g + 5) (aI v 6 (iF B))) g (G.sO B) :=
  ⟨hp6 h _ (by omega) hg.1, hp6 h _ (by omega) hg.2.1, hp6 h _ (by omega) hg.2.2.1, hp6 h _ (by omega) hg.2.2.2.1, hp6 h _ (by omega) hg.2.2.2.2.1, hp_eq _ _ _⟩
theorem c_wb {v : Ev} {h : Hp} {top g : Nat} {G : GT} (hg : isG v h g G) {a b : Nat} (hi : a * 6 + b < 36) : Cal v mX3_weightBetween 1 0 0 [.ref g, .int (nI a), .int (nI b)] h top (pR (.int (nI (G.W (a * 6 + b)))) h top) noX := by
  refine Cal.ofJ (by decide +kernel) rfl (Nat.le_of_ble_eq_true rfl) fun hz0 => ?_
  refine r_ls [some (.ref g), some (.int (nI a)), some (.int (nI b))] rfl ?_
  refine r_aload_n (pc := 0) (i := 0) (tX3_weightBetween.at 0 rfl) rfl rfl ?_
  refine r_get (pc := 1) (tX3_weightBetween.at 1 rfl) gf_X3_31 (hg.1) rfl ?_
  refine r_iload_n (pc := 4) (i := 1) (tX3_weightBetween.at 2 rfl) rfl rfl ?_
  refine r_bipush (pc := 5) (w := nI 6) (tX3_weightBetween.at 3 rfl) (by decide) ?_
  first | refine r_imulN (pc := 7) (tX3_weightBetween.at 4 rfl) ?_ | refine r_imul (pc := 7) (tX3_weightBetween.at 4 rfl) ?_
  refine r_iload_n (pc := 8) (i := 2) (tX3_weightBetween.at 5 rfl) rfl rfl ?_
  first | refine r_iaddN (pc := 9) (tX3_weightBetween.at 6 rfl) ?_ | refine r_iadd (pc := 9) (tX3_weightBetween.at 6 rfl) ?_
  refine r_iald (pc := 10) (tX3_weightBetween.at 7 rfl) (hg.2.2.2.1) (a * 6 + b) (rfl) (by omega) (Nat.le_of_ble_eq_true rfl) ?_
  refine r_iret (pc := 11) (tX3_weightBetween.at 8 rfl) rfl (Nat.le_of_ble_eq_true rfl) (Nat.le_of_ble_eq_true rfl) ?_
  exact ⟨rfl, rfl, rfl⟩
/-- the sum of the weights of a vertex, over the first n -/
def degN (W : Nat → Nat) (x n : Nat) : Nat := sN (fun u => W (x * 6 + u)) n
theorem c_sow {v : Ev} {h : Hp} {top g : Nat} {G : GT} (hg : isG v h g G) (hn : G.n ≤ 6) {x : Nat} (hx : x < 6) : Cal v mX3_sumOfWeights 2 0 0 [.ref g, .int (nI x)] h top (pR (.int (nI (degN G.W x G.n))) h top) noX := by
  refine Cal.ofJ (by decide +kernel) rfl (Nat.le_of_ble_eq_true rfl) fun hz0 => ?_
  refine r_ls [some (.ref g), some (.int (nI x)), none, none] rfl ?_
  refine r_iconst (pc := 0) (w := nI 0) (tX3_sumOfWeights.at 0 rfl) (by decide) ?_
  refine r_istore_n (pc := 1) (i := 2) (tX3_sumOfWeights.at 1 rfl) rfl (by decide) ?_
  refine r_iconst (pc := 2) (w := nI 0) (tX3_sumOfWeights.at 2 rfl) (by decide) ?_
  refine r_istore_n (pc := 3) (i := 3) (tX3_sumOfWeights.at 3 rfl) rfl (by decide) ?_
  refine down (n := G.n) (P := fun u => J v mX3_sumOfWeights (rmOf 2 0 0) (KM v (pR (.int (nI (degN G.W x G.n))) h top) noX 0 0) top 0 0 h top 4 [some (.ref g), some (.int (nI x)), some (.int (nI (degN G.W x u))), some (.int (nI u))] []) ?_ ?_ 0 (by omega)
  · refine r_iload_n (pc := 4) (i := 3) (tX3_sumOfWeights.at 4 rfl) rfl rfl ?_
    refine r_aload_n (pc := 5) (i := 0) (tX3_sumOfWeights.at 5 rfl) rfl rfl ?_
    refine r_get (pc := 6) (tX3_sumOfWeights.at 6 rfl) gf_X3_9 (hg.1) rfl ?_
    refine r_icmp_geN (pc := 9) 27 (tX3_sumOfWeights.at 7 rfl) (by decide) (by omega) (by omega) (fun _ => ?_) (fun c => by omega)
    refine r_iload_n (pc := 27) (i := 2) (tX3_sumOfWeights.at 17 rfl) rfl rfl ?_
    refine r_iret (pc := 28) (tX3_sumOfWeights.at 18 rfl) rfl (Nat.le_of_ble_eq_true rfl) (Nat.le_of_ble_eq_true rfl) ?_
    exact ⟨rfl, rfl, rfl⟩
  · intro u hu ih
    refine r_iload_n (pc := 4) (i := 3) (tX3_sumOfWeights.at 4 rfl) rfl rfl ?_
    refine r_aload_n (pc := 5) (i := 0) (tX3_sumOfWeights.at 5 rfl) rfl rfl ?_
    refine r_get (pc := 6) (tX3_sumOfWeights.at 6 rfl) gf_X3_9 (hg.1) rfl ?_
    refine r_icmp_geN (pc := 9) 27 (tX3_sumOfWeights.at 7 rfl) (by decide) (by omega) (by omega) (fun c => by omega) (fun _ => ?_)
    refine r_iload_n (pc := 12) (i := 2) (tX3_sumOfWeights.at 8 rfl) rfl rfl ?_
    refine r_aload_n (pc := 13) (i := 0) (tX3_sumOfWeights.at 9 rfl) rfl rfl ?_
    refine r_iload_n (pc := 14) (i := 1) (tX3_sumOfWeights.at 10 rfl) rfl rfl ?_
    refine r_iload_n (pc := 15) (i := 3) (tX3_sumOfWeights.at 11 rfl) rfl rfl ?_
    refine r_callV (M' := mX3_weightBetween) (pc := 16) (tX3_sumOfWeights.at 12 rfl) ml_X3_71 rfl mw_X3_weightBetween ⟨by decide, by decide⟩ (hg.1) rfl rfl (c_wb hg (a := x) (b := u) (by omega)) rfl rfl (Nat.le_of_ble_eq_true rfl) (Nat.le_of_ble_eq_true rfl) (Nat.le_of_ble_eq_true rfl) ?_
    rintro _ _ _ ⟨rfl, rfl, rfl⟩
    first | refine r_iaddN (pc := 19) (tX3_sumOfWeights.at 13 rfl) ?_ | refine r_iadd (pc := 19) (tX3_sumOfWeights.at 13 rfl) ?_
    refine r_istore_n (pc := 20) (i := 2) (tX3_sumOfWeights.at 14 rfl) rfl (by decide) ?_
    first | refine r_iincN (pc := 21) (tX3_sumOfWeights.at 15 rfl) rfl (by decide) ?_ | refine r_iinc (pc := 21) (tX3_sumOfWeights.at 15 rfl) rfl rfl (by decide) ?_
    refine r_goto (pc := 24) 4 (tX3_sumOfWeights.at 16 rfl) (by decide) ?_
    exact ih
theorem c_putW {v : Ev} {h : Hp} {top g : Nat} {G : GT} (hg : isG v h g G) {a b w : Nat} (ha : a < 6) (hb : b < 6) : Cal v mX3_putWeight 1 0 0 [.ref g, .int (nI a), .int (nI b), .int (nI w)] h top (pV (hp h (g + 3) (aI v 36 (iF (upN (upN G.W (a * 6 + b) w) (b * 6 + a) w)))) top) noX := by
  refine Cal.ofJ (by decide +kernel) rfl (Nat.le_of_ble_eq_true rfl) fun hz0 => ?_
  refine r_ls [some (.ref g), some (.int (nI a)), some (.int (nI b)), some (.int (nI w))] rfl ?_
  refine r_aload_n (pc := 0) (i := 0) (tX3_putWeight.at 0 rfl) rfl rfl ?_
  refine r_get (pc := 1) (tX3_putWeight.at 1 rfl) gf_X3_31 (hg.1) rfl ?_
  refine r_iload_n (pc := 4) (i := 1) (tX3_putWeight.at 2 rfl) rfl rfl ?_
  refine r_bipush (pc := 5) (w := nI 6) (tX3_putWeight.at 3 rfl) (by decide) ?_
  first | refine r_imulN (pc := 7) (tX3_putWeight.at 4 rfl) ?_ | refine r_imul (pc := 7) (tX3_putWeight.at 4 rfl) ?_
  refine r_iload_n (pc := 8) (i := 2) (tX3_putWeight.at 5 rfl) rfl rfl ?_
  first | refine r_iaddN (pc := 9) (tX3_putWeight.at 6 rfl) ?_ | refine r_iadd (pc := 9) (tX3_putWeight.at 6 rfl) ?_
  refine r_iload_n (pc := 10) (i := 3) (tX3_putWeight.at 7 rfl) rfl rfl ?_
  refine r_iast (pc := 11) (tX3_putWeight.at 8 rfl) (hg.2.2.2.1) (a * 6 + b) (rfl) (by omega) (Nat.le_of_ble_eq_true rfl) ?_
  rw [upd_iF]
  have hg2 := hg.pW (upN G.W (a * 6 + b) w)
  refine r_aload_n (pc := 12) (i := 0) (tX3_putWeight.at 9 rfl) rfl rfl ?_
  refine r_get (pc := 13) (tX3_putWeight.at 10 rfl) gf_X3_31 (hg2.1) rfl ?_
  refine r_iload_n (pc := 16) (i := 2) (tX3_putWeight.at 11 rfl) rfl rfl ?_
  refine r_bipush (pc := 17) (w := nI 6) (tX3_putWeight.at 12 rfl) (by decide) ?_
  first | refine r_imulN (pc := 19) (tX3_putWeight.at 13 rfl) ?_ | refine r_imul (pc := 19) (tX3_putWeight.at 13 rfl) ?_
  refine r_iload_n (pc := 20) (i := 1) (tX3_putWeight.at 14 rfl) rfl rfl ?_
  first | refine r_iaddN (pc := 21) (tX3_putWeight.at 15 rfl) ?_ | refine r_iadd (pc := 21) (tX3_putWeight.at 15 rfl) ?_
  refine r_iload_n (pc := 22) (i := 3) (tX3_putWeight.at 16 rfl) rfl rfl ?_
  refine r_iast (pc := 23) (tX3_putWeight.at 17 rfl) (hg2.2.2.2.1) (b * 6 + a) (rfl) (by omega) (Nat.le_of_ble_eq_true rfl) ?_
  refine r_vret (pc := 24) (tX3_putWeight.at 18 rfl) rfl (Nat.le_of_ble_eq_true rfl) (Nat.le_of_ble_eq_true rfl) ?_
  exact ⟨rfl, (by rw [hp_hp, ← upd_iF]; rfl : _ = hp (hp h (g + 3) (aI v 36 (iF (upN G.W (a * 6 + b) w)))) (g + 3) _).trans rfl, rfl⟩
/-- the set of the neighbours among the first n -/
def nbm (W : Nat → Nat) (x : Nat) : Nat → Nat
  | 0 => 0
  | n + 1 => if W (x * 6 + n) = 0 then nbm W x n else nbm W x n ||| 2 ^ n
theorem nbm_lt (W : Nat → Nat) (x : Nat) : ∀ n, nbm W x n < 2 ^ n
  | 0 => by simp [nbm]
  | n + 1 => by
    have h1 := nbm_lt W x n
    have h2 : 2 ^ n < 2 ^ (n + 1) := Nat.pow_lt_pow_right (by omega) (by omega)
    rw [nbm]
    split
    · omega
    · exact Nat.or_lt_two_pow (by omega) h2
theorem p64 {n : Nat} (hn : n ≤ 6) : 2 ^ n ≤ 64 := by
  rcases (show n = 0 ∨ n = 1 ∨ n = 2 ∨ n = 3 ∨ n = 4 ∨ n = 5 ∨ n = 6 by omega) with rfl | rfl | rfl | rfl | rfl | rfl | rfl <;> decide
theorem c_nb {v : Ev} {h : Hp} {top g : Nat} {G : GT} (hg : isG v h g G) (hn : G.n ≤ 6) {x : Nat} (hx : x < 6) (hW : ∀ k, k < 36 → G.W k < 2147483648) : Cal v mX3_neighbours 2 0 0 [.ref g, .int (nI x)] h top (pR (.int (nI (nbm G.W x G.n))) h top) noX := by
  refine Cal.ofJ (by decide +kernel) rfl (Nat.le_of_ble_eq_true rfl) fun hz0 => ?_
  refine r_ls [some (.ref g), some (.int (nI x)), none, none] rfl ?_
  refine r_iconst (pc := 0) (w := nI 0) (tX3_neighbours.at 0 rfl) (by decide) ?_
  refine r_istore_n (pc := 1) (i := 2) (tX3_neighbours.at 1 rfl) rfl (by decide) ?_
  refine r_iconst (pc := 2) (w := nI 0) (tX3_neighbours.at 2 rfl) (by decide) ?_
  refine r_istore_n (pc := 3) (i := 3) (tX3_neighbours.at 3 rfl) rfl (by decide) ?_
  refine down (n := G.n) (P := fun u => J v mX3_neighbours (rmOf 2 0 0) (KM v (pR (.int (nI (nbm G.W x G.n))) h top) noX 0 0) top 0 0 h top 4 [some (.ref g), some (.int (nI x)), some (.int (nI (nbm G.W x u))), some (.int (nI u))] []) ?_ ?_ 0 (by omega)
  · refine r_iload_n (pc := 4) (i := 3) (tX3_neighbours.at 4 rfl) rfl rfl ?_
    refine r_aload_n (pc := 5) (i := 0) (tX3_neighbours.at 5 rfl) rfl rfl ?_
    refine r_get (pc := 6) (tX3_neighbours.at 6 rfl) gf_X3_9 (hg.1) rfl ?_
    refine r_icmp_geN (pc := 9) 33 (tX3_neighbours.at 7 rfl) (by decide) (by omega) (by omega) (fun _ => ?_) (fun c => by omega)
    refine r_iload_n (pc := 33) (i := 2) (tX3_neighbours.at 21 rfl) rfl rfl ?_
    refine r_iret (pc := 34) (tX3_neighbours.at 22 rfl) rfl (Nat.le_of_ble_eq_true rfl) (Nat.le_of_ble_eq_true rfl) ?_
    exact ⟨rfl, rfl, rfl⟩
  · intro u hu ih
    have hw := hW (x * 6 + u) (by omega)
    refine r_iload_n (pc := 4) (i := 3) (tX3_neighbours.at 4 rfl) rfl rfl ?_
    refine r_aload_n (pc := 5) (i := 0) (tX3_neighbours.at 5 rfl) rfl rfl ?_
    refine r_get (pc := 6) (tX3_neighbours.at 6 rfl) gf_X3_9 (hg.1) rfl ?_
    refine r_icmp_geN (pc := 9) 33 (tX3_neighbours.at 7 rfl) (by decide) (by omega) (by omega) (fun c => by omega) (fun _ => ?_)
    refine r_aload_n (pc := 12) (i := 0) (tX3_neighbours.at 8 rfl) rfl rfl ?_
    refine r_iload_n (pc := 13) (i := 1) (tX3_neighbours.at 9 rfl) rfl rfl ?_
    refine r_iload_n (pc := 14) (i := 3) (tX3_neighbours.at 10 rfl) rfl rfl ?_
    refine r_callV (M' := mX3_weightBetween) (pc := 15) (tX3_neighbours.at 11 rfl) ml_X3_71 rfl mw_X3_weightBetween ⟨by decide, by decide⟩ (hg.1) rfl rfl (c_wb hg (a := x) (b := u) (by omega)) rfl rfl (Nat.le_of_ble_eq_true rfl) (Nat.le_of_ble_eq_true rfl) (Nat.le_of_ble_eq_true rfl) ?_
    rintro _ _ _ ⟨rfl, rfl, rfl⟩
    refine r_if_eqN (pc := 18) 27 (tX3_neighbours.at 12 rfl) (by decide) (by omega) (fun c => ?_) (fun c => ?_)
    · first | refine r_iincN (pc := 27) (tX3_neighbours.at 19 rfl) rfl (by decide) ?_ | refine r_iinc (pc := 27) (tX3_neighbours.at 19 rfl) rfl rfl (by decide) ?_
      refine r_goto (pc := 30) 4 (tX3_neighbours.at 20 rfl) (by decide) ?_
      rw [nbm, if_pos c] at ih
      exact ih
    · refine r_iload_n (pc := 21) (i := 2) (tX3_neighbours.at 13 rfl) rfl rfl ?_
      refine r_iconst (pc := 22) (w := nI 1) (tX3_neighbours.at 14 rfl) (by decide) ?_
      refine r_iload_n (pc := 23) (i := 3) (tX3_neighbours.at 15 rfl) rfl rfl ?_
      refine r_ishl (pc := 24) (tX3_neighbours.at 16 rfl) ?_
      rw [bs_one u (by omega)]
      have h1 := nbm_lt G.W x u
      have h2 := p64 (n := u) (by omega)
      have h3 : 2 ^ u < 64 := Nat.lt_of_lt_of_le (Nat.pow_lt_pow_right (by omega) (show u < 6 by omega)) (by decide)
      refine r_ior (pc := 25) (tX3_neighbours.at 17 rfl) ?_
      rw [bs_or _ (by omega) _ h3]
      refine r_istore_n (pc := 26) (i := 2) (tX3_neighbours.at 18 rfl) rfl (by decide) ?_
      first | refine r_iincN (pc := 27) (tX3_neighbours.at 19 rfl) rfl (by decide) ?_ | refine r_iinc (pc := 27) (tX3_neighbours.at 19 rfl) rfl rfl (by decide) ?_
      refine r_goto (pc := 30) 4 (tX3_neighbours.at 20 rfl) (by decide) ?_
      rw [nbm, if_neg c] at ih
      exact ih
/-- a round over the first v vertices, in place -/
def cIn (W : Nat → Nat) (n S : Nat) : Nat → Nat
  | 0 => S
  | u + 1 => if (cIn W n S u).testBit u then cIn W n S u ||| nbm W u n else cIn W n S u
def cOut (W : Nat → Nat) (n x : Nat) : Nat → Nat
  | 0 => 2 ^ x
  | r + 1 => cIn W n (cOut W n x r) n
theorem cIn_lt {W : Nat → Nat} {n S : Nat} (hS : S < 2 ^ n) : ∀ u, cIn W n S u < 2 ^ n
  | 0 => hS
  | u + 1 => by
    have h1 := cIn_lt (W := W) hS u
    rw [cIn]
    split
    · exact Nat.or_lt_two_pow h1 (nbm_lt W u n)
    · exact h1
theorem cOut_lt {W : Nat → Nat} {n x : Nat} (hx : x < n) : ∀ r, cOut W n x r < 2 ^ n
  | 0 => Nat.pow_lt_pow_right (by omega) hx
  | r + 1 => cIn_lt (cOut_lt hx r) n
/-- the set of what can be reached -/
def rch (W : Nat → Nat) (n x : Nat) : Nat := cOut W n x (n - 1)
theorem rch_lt {W : Nat → Nat} {n x : Nat} (hx : x < n) : rch W n x < 2 ^ n := cOut_lt hx _
theorem c_comp {v : Ev} {h : Hp} {top g : Nat} {G : GT} (hg : isG v h g G) (hn : G.n ≤ 6) {x : Nat} (hx : x < G.n) (hW : ∀ k, k < 36 → G.W k < 2147483648) : Cal v mX3_component 3 0 0 [.ref g, .int (nI x)] h top (pR (.int (nI (rch G.W G.n x))) h top) noX := by
  refine Cal.ofJ (by decide +kernel) rfl (Nat.le_of_ble_eq_true rfl) fun hz0 => ?_
  refine r_ls [some (.ref g), some (.int (nI x)), none, none, none] rfl ?_
  refine r_iconst (pc := 0) (w := nI 1) (tX3_component.at 0 rfl) (by decide) ?_
  refine r_iload_n (pc := 1) (i := 1) (tX3_component.at 1 rfl) rfl rfl ?_
  refine r_ishl (pc := 2) (tX3_component.at 2 rfl) ?_
  rw [bs_one x (by omega)]
  refine r_istore_n (pc := 3) (i := 2) (tX3_component.at 3 rfl) rfl (by decide) ?_
  refine r_iconst (pc := 4) (w := nI 1) (tX3_component.at 4 rfl) (by decide) ?_
  refine r_istore_n (pc := 5) (i := 3) (tX3_component.at 5 rfl) rfl (by decide) ?_
  refine down (n := G.n - 1) (P := fun r => J v mX3_component (rmOf 3 0 0) (KM v (pR (.int (nI (rch G.W G.n x))) h top) noX 0 0) top 0 0 h top 6 [some (.ref g), some (.int (nI x)), some (.int (nI (cOut G.W G.n x r))), some (.int (nI (r + 1))), none] []) ?_ ?_ 0 (by omega)
  · refine r_iload_n (pc := 6) (i := 3) (tX3_component.at 6 rfl) rfl rfl ?_
    refine r_aload_n (pc := 7) (i := 0) (tX3_component.at 7 rfl) rfl rfl ?_
    refine r_get (pc := 8) (tX3_component.at 8 rfl) gf_X3_9 (hg.1) rfl ?_
    refine r_icmp_geN (pc := 11) 56 (tX3_component.at 9 rfl) (by decide) (by omega) (by omega) (fun _ => ?_) (fun c => by omega)
    refine r_iload_n (pc := 56) (i := 2) (tX3_component.at 32 rfl) rfl rfl ?_
    refine r_iret (pc := 57) (tX3_component.at 33 rfl) rfl (Nat.le_of_ble_eq_true rfl) (Nat.le_of_ble_eq_true rfl) ?_
    exact ⟨rfl, rfl, rfl⟩
  · intro r hr ih
    refine r_iload_n (pc := 6) (i := 3) (tX3_component.at 6 rfl) rfl rfl ?_
    refine r_aload_n (pc := 7) (i := 0) (tX3_component.at 7 rfl) rfl rfl ?_
    refine r_get (pc := 8) (tX3_component.at 8 rfl) gf_X3_9 (hg.1) rfl ?_
    refine r_icmp_geN (pc := 11) 56 (tX3_component.at 9 rfl) (by decide) (by omega) (by omega) (fun c => by omega) (fun _ => ?_)
    refine r_iconst (pc := 14) (w := nI 0) (tX3_component.at 10 rfl) (by decide) ?_
    refine r_istore (pc := 15) (i := 4) (tX3_component.at 11 rfl) (by decide) ?_
    have hlt : ∀ u, cIn G.W G.n (cOut G.W G.n x r) u < 64 := fun u => Nat.lt_of_lt_of_le (cIn_lt (cOut_lt hx r) u) (p64 hn)
    refine down (n := G.n) (P := fun u => J v mX3_component (rmOf 3 0 0) (KM v (pR (.int (nI (rch G.W G.n x))) h top) noX 0 0) top 0 0 h top 17 [some (.ref g), some (.int (nI x)), some (.int (nI (cIn G.W G.n (cOut G.W G.n x r) u))), some (.int (nI (r + 1))), some (.int (nI u))] []) ?_ ?_ 0 (by omega)
    · refine r_iload (pc := 17) (i := 4) (tX3_component.at 12 rfl) rfl ?_
      refine r_aload_n (pc := 19) (i := 0) (tX3_component.at 13 rfl) rfl rfl ?_
      refine r_get (pc := 20) (tX3_component.at 14 rfl) gf_X3_9 (hg.1) rfl ?_
      refine r_icmp_geN (pc := 23) 50 (tX3_component.at 15 rfl) (by decide) (by omega) (by omega) (fun _ => ?_) (fun c => by omega)
      first | refine r_iincN (pc := 50) (tX3_component.at 30 rfl) rfl (by decide) ?_ | refine r_iinc (pc := 50) (tX3_component.at 30 rfl) rfl rfl (by decide) ?_
      refine r_goto (pc := 53) 6 (tX3_component.at 31 rfl) (by decide) ?_
      exact r_sub _ (fun i w hw => by
        match i, hw with
        | 0, hw => exact hw
        | 1, hw => exact hw
        | 2, hw => exact hw
        | 3, hw => exact hw
        | 4, hw => cases hw) ih
    · intro u hu ih2
      have h1 := hlt u
      refine r_iload (pc := 17) (i := 4) (tX3_component.at 12 rfl) rfl ?_
      refine r_aload_n (pc := 19) (i := 0) (tX3_component.at 13 rfl) rfl rfl ?_
      refine r_get (pc := 20) (tX3_component.at 14 rfl) gf_X3_9 (hg.1) rfl ?_
      refine r_icmp_geN (pc := 23) 50 (tX3_component.at 15 rfl) (by decide) (by omega) (by omega) (fun c => by omega) (fun _ => ?_)
      refine r_iload_n (pc := 26) (i := 2) (tX3_component.at 16 rfl) rfl rfl ?_
      refine r_iload (pc := 27) (i := 4) (tX3_component.at 17 rfl) rfl ?_
      refine r_ishr (pc := 29) (tX3_component.at 18 rfl) ?_
      refine r_iconst (pc := 30) (w := nI 1) (tX3_component.at 19 rfl) (by decide) ?_
      refine r_iand (pc := 31) (tX3_component.at 20 rfl) ?_
      rw [bs_sh _ h1 u (by omega)]
      have hb : Bool.toNat ((cIn G.W G.n (cOut G.W G.n x r) u).testBit u) ≤ 1 := Bool.toNat_le _
      refine r_if_eqN (pc := 32) 44 (tX3_component.at 21 rfl) (by decide) (by omega) (fun c => ?_) (fun c => ?_)
      · first | refine r_iincN (pc := 44) (tX3_component.at 28 rfl) rfl (by decide) ?_ | refine r_iinc (pc := 44) (tX3_component.at 28 rfl) rfl rfl (by decide) ?_
        refine r_goto (pc := 47) 17 (tX3_component.at 29 rfl) (by decide) ?_
        rw [cIn, if_neg (by intro q; rw [q] at c; cases c)] at ih2
        exact ih2
      · refine r_iload_n (pc := 35) (i := 2) (tX3_component.at 22 rfl) rfl rfl ?_
        refine r_aload_n (pc := 36) (i := 0) (tX3_component.at 23 rfl) rfl rfl ?_
        refine r_iload (pc := 37) (i := 4) (tX3_component.at 24 rfl) rfl ?_
        refine r_callV (M' := mX3_neighbours) (pc := 39) (tX3_component.at 25 rfl) ml_X3_74 rfl mw_X3_neighbours ⟨by decide, by decide⟩ (hg.1) rfl rfl (c_nb hg hn (x := u) (by omega) hW) rfl rfl (Nat.le_of_ble_eq_true rfl) (Nat.le_of_ble_eq_true rfl) (Nat.le_of_ble_eq_true rfl) ?_
        rintro _ _ _ ⟨rfl, rfl, rfl⟩
        refine r_ior (pc := 42) (tX3_component.at 26 rfl) ?_
        have h2 := nbm_lt G.W u G.n
        have h3 := p64 hn
        rw [bs_or _ h1 _ (by omega)]
        refine r_istore_n (pc := 43) (i := 2) (tX3_component.at 27 rfl) rfl (by decide) ?_
        first | refine r_iincN (pc := 44) (tX3_component.at 28 rfl) rfl (by decide) ?_ | refine r_iinc (pc := 44) (tX3_component.at 28 rfl) rfl rfl (by decide) ?_
        refine r_goto (pc := 47) 17 (tX3_component.at 29 rfl) (by decide) ?_
        rw [cIn, if_pos (by cases q : (cIn G.W G.n (cOut G.W G.n x r) u).testBit u <;> simp_all)] at ih2
        exact ih2
theorem c_hasWay {v : Ev} {h : Hp} {top g : Nat} {G : GT} (hg : isG v h g G) (hn : G.n ≤ 6) {x y : Nat} (hx : x < G.n) (hy : y < 6) (hW : ∀ k, k < 36 → G.W k < 2147483648) : Cal v mX3_hasWay 4 0 0 [.ref g, .int (nI x), .int (nI y)] h top (pR (.int (nI (Bool.toNat ((rch G.W G.n x).testBit y)))) h top) noX := by
  refine Cal.ofJ (by decide +kernel) rfl (Nat.le_of_ble_eq_true rfl) fun hz0 => ?_
  refine r_ls [some (.ref g), some (.int (nI x)), some (.int (nI y))] rfl ?_
  have h1 : rch G.W G.n x < 64 := Nat.lt_of_lt_of_le (rch_lt hx) (p64 hn)
  refine r_aload_n (pc := 0) (i := 0) (tX3_hasWay.at 0 rfl) rfl rfl ?_
  refine r_iload_n (pc := 1) (i := 1) (tX3_hasWay.at 1 rfl) rfl rfl ?_
  refine r_callV (M' := mX3_component) (pc := 2) (tX3_hasWay.at 2 rfl) ml_X3_78 rfl mw_X3_component ⟨by decide, by decide⟩ (hg.1) rfl rfl (c_comp hg hn hx hW) rfl rfl (Nat.le_of_ble_eq_true rfl) (Nat.le_of_ble_eq_true rfl) (Nat.le_of_ble_eq_true rfl) ?_
  rintro _ _ _ ⟨rfl, rfl, rfl⟩
  refine r_iload_n (pc := 5) (i := 2) (tX3_hasWay.at 3 rfl) rfl rfl ?_
  refine r_ishr (pc := 6) (tX3_hasWay.at 4 rfl) ?_
  refine r_iconst (pc := 7) (w := nI 1) (tX3_hasWay.at 5 rfl) (by decide) ?_
  refine r_iand (pc := 8) (tX3_hasWay.at 6 rfl) ?_
  rw [bs_sh _ h1 y (by omega)]
  have hb : Bool.toNat ((rch G.W G.n x).testBit y) ≤ 1 := Bool.toNat_le _
  refine r_if_eqN (pc := 9) 16 (tX3_hasWay.at 7 rfl) (by decide) (by omega) (fun c => ?_) (fun c => ?_)
  · refine r_iconst (pc := 16) (w := nI 0) (tX3_hasWay.at 10 rfl) (by decide) ?_
    refine r_zret (pc := 17) (tX3_hasWay.at 11 rfl) rfl (rfl) (Nat.le_of_ble_eq_true rfl) (Nat.le_of_ble_eq_true rfl) ?_
    rw [c]
    exact ⟨rfl, rfl, rfl⟩
  · refine r_iconst (pc := 12) (w := nI 1) (tX3_hasWay.at 8 rfl) (by decide) ?_
    refine r_goto (pc := 13) 17 (tX3_hasWay.at 9 rfl) (by decide) ?_
    refine r_zret (pc := 17) (tX3_hasWay.at 11 rfl) rfl (rfl) (Nat.le_of_ble_eq_true rfl) (Nat.le_of_ble_eq_true rfl) ?_
    rw [show Bool.toNat ((rch G.W G.n x).testBit y) = 1 by omega]
    exact ⟨rfl, rfl, rfl⟩
theorem c_isAbs {v : Ev} {h : Hp} {top g : Nat} {G : GT} (hg : isG v h g G) (ha : G.a < 64) {y : Nat} (hy : y < 6) : Cal v mX3_isAbsorbing 1 0 0 [.ref g, .int (nI y)] h top (pR (.int (nI (Bool.toNat (G.a.testBit y)))) h top) noX := by
  refine Cal.ofJ (by decide +kernel) rfl (Nat.le_of_ble_eq_true rfl) fun hz0 => ?_
  refine r_ls [some (.ref g), some (.int (nI y))] rfl ?_
  refine r_aload_n (pc := 0) (i := 0) (tX3_isAbsorbing.at 0 rfl) rfl rfl ?_
  refine r_get (pc := 1) (tX3_isAbsorbing.at 1 rfl) gf_X3_18 (hg.1) rfl ?_
  refine r_iload_n (pc := 4) (i := 1) (tX3_isAbsorbing.at 2 rfl) rfl rfl ?_
  refine r_ishr (pc := 5) (tX3_isAbsorbing.at 3 rfl) ?_
  refine r_iconst (pc := 6) (w := nI 1) (tX3_isAbsorbing.at 4 rfl) (by decide) ?_
  refine r_iand (pc := 7) (tX3_isAbsorbing.at 5 rfl) ?_
  rw [bs_sh _ ha y (by omega)]
  have hb : Bool.toNat (G.a.testBit y) ≤ 1 := Bool.toNat_le _
  refine r_if_eqN (pc := 8) 15 (tX3_isAbsorbing.at 6 rfl) (by decide) (by omega) (fun c => ?_) (fun c => ?_)
  · refine r_iconst (pc := 15) (w := nI 0) (tX3_isAbsorbing.at 9 rfl) (by decide) ?_
    refine r_zret (pc := 16) (tX3_isAbsorbing.at 10 rfl) rfl (rfl) (Nat.le_of_ble_eq_true rfl) (Nat.le_of_ble_eq_true rfl) ?_
    rw [c]
    exact ⟨rfl, rfl, rfl⟩
  · refine r_iconst (pc := 11) (w := nI 1) (tX3_isAbsorbing.at 7 rfl) (by decide) ?_
    refine r_goto (pc := 12) 16 (tX3_isAbsorbing.at 8 rfl) (by decide) ?_
    refine r_zret (pc := 16) (tX3_isAbsorbing.at 10 rfl) rfl (rfl) (Nat.le_of_ble_eq_true rfl) (Nat.le_of_ble_eq_true rfl) ?_
    rw [show Bool.toNat (G.a.testBit y) = 1 by omega]
    exact ⟨rfl, rfl, rfl⟩

