/-! ===== the component's answers: edge, lumped, checksum; append ===== -/
theorem degN_cong {W W2 : Nat → Nat} {k n : Nat} (h : ∀ u, u < n → W (k * 6 + u) = W2 (k * 6 + u)) : degN W k n = degN W2 k n := sN_cong n h
theorem nbm_cong {W W2 : Nat → Nat} {k : Nat} : ∀ {n : Nat}, (∀ u, u < n → W (k * 6 + u) = W2 (k * 6 + u)) → nbm W k n = nbm W2 k n
  | 0, _ => rfl
  | n + 1, h => by rw [nbm, nbm, nbm_cong (fun u hu => h u (by omega)), h n (by omega)]
theorem cIn_cong {W W2 : Nat → Nat} {n S : Nat} (h : ∀ k u, k < n → u < n → W (k * 6 + u) = W2 (k * 6 + u)) : ∀ u, u ≤ n → cIn W n S u = cIn W2 n S u
  | 0, _ => rfl
  | u + 1, hu => by rw [cIn, cIn, cIn_cong h u (by omega), nbm_cong (fun w hw => h u w (by omega) hw)]
theorem cOut_cong {W W2 : Nat → Nat} {n x : Nat} (h : ∀ k u, k < n → u < n → W (k * 6 + u) = W2 (k * 6 + u)) : ∀ r, cOut W n x r = cOut W2 n x r
  | 0 => rfl
  | r + 1 => by rw [cOut, cOut, cOut_cong h r, cIn_cong h n (Nat.le_refl _)]
theorem rch_cong {W W2 : Nat → Nat} {n x : Nat} (h : ∀ k u, k < n → u < n → W (k * 6 + u) = W2 (k * 6 + u)) : rch W n x = rch W2 n x := cOut_cong h _
theorem aug_congW {W W2 : Nat → Nat} {n S w : Nat} {g g2 : Nat → Int} (hw : w < n) (h : ∀ k u, k < n → u < n → W (k * 6 + u) = W2 (k * 6 + u)) (hg : ∀ k, k < n → g k = g2 k) : aug W n g (unkL S w n) = aug W2 n g2 (unkL S w n) := by
  funext i j
  unfold aug
  rw [hg _ (unkL_lt hw i), degN_cong (fun u hu => h _ u (unkL_lt hw i) hu), h _ _ (unkL_lt hw i) (unkL_lt hw j)]
theorem mu_congW {W W2 : Nat → Nat} {n i j : Nat} {g g2 : Nat → Int} (hi : i < n) (h : ∀ k u, k < n → u < n → W (k * 6 + u) = W2 (k * 6 + u)) (hg : ∀ k, k < n → g k = g2 k) : muM W n i j g = muM W2 n i j g2 ∧ muK W n i j = muK W2 n i j ∧ muA W n i j g = muA W2 n i j g2 ∧ muB W n i j g = muB W2 n i j g2 := by
  have e1 : muS W n i j = muS W2 n i j := by unfold muS; rw [rch_cong h]
  have e2 : muK W n i j = muK W2 n i j := by unfold muK; rw [e1]
  have e3 : muM W n i j g = muM W2 n i j g2 := by unfold muM; rw [e1]; exact aug_congW hi h hg
  refine ⟨e3, e2, ?_, ?_⟩
  · unfold muA
    rw [e2, e3]
  · unfold muB
    rw [e2, e3]
/-- the graph of the blocks and its gains, as they follow from the graph -/
def lpF (G : GT) : Nat → Nat := fun k => lpW G.W G.B G.n G.b G.n (k / 6) (k % 6)
def lgF (G : GT) : Nat → Int := fun i => (lgS G.W G.B G.n G.n i : Nat)
def lpG (G : GT) : GT := ((G.b, 0, 0, G.b), (fun _ => 0, fun _ => 0, lpF G, fun _ => 0, fun _ => 0), 0)
theorem lpF_at (G : GT) {i j : Nat} (hj : j < 6) : lpF G (i * 6 + j) = lpW G.W G.B G.n G.b G.n i j := by
  unfold lpF
  rw [show (i * 6 + j) / 6 = i by omega, show (i * 6 + j) % 6 = j by omega]
theorem lpS_le {W B : Nat → Nat} {n k i j : Nat} (hn : n ≤ 6) (hk : k ≤ 6) (hW : ∀ k, k < 36 → W k ≤ 9) : lpS W B n k i j ≤ 324 := by
  have h1 : lpS W B n k i j ≤ k * 54 := sN_le k (fun u hu => by
    split
    · exact wto_le hn (by omega) hW
    · omega)
  have h2 : k * 54 ≤ 6 * 54 := Nat.mul_le_mul_right _ hk
  omega
theorem lgS_le {W B : Nat → Nat} {n k i : Nat} (hn : n ≤ 6) (hk : k ≤ 6) (hW : ∀ k, k < 36 → W k ≤ 9) : lgS W B n k i ≤ 324 := by
  have h1 : lgS W B n k i ≤ k * 54 := sN_le k (fun u hu => by
    split
    · exact degN_le hn (by omega) hW
    · omega)
  have h2 : k * 54 ≤ 6 * 54 := Nat.mul_le_mul_right _ hk
  omega
theorem lpW_le {W B : Nat → Nat} {n nb k i j : Nat} (hn : n ≤ 6) (hk : k ≤ 6) (hW : ∀ k, k < 36 → W k ≤ 9) : lpW W B n nb k i j ≤ 324 := by
  unfold lpW
  split
  · split
    · exact lpS_le hn hk hW
    · omega
  · split
    · split
      · exact lpS_le hn hk hW
      · omega
    · omega
section
variable {v : Ev} {h : Hp} {top x : Nat} {Z : CS}
def edV (G : GT) (cn : Nat) (cc : Nat → Int) (i w : Nat) : Nat := if w = 0 then G.L i else if w = 1 then G.H i else if w = 2 then G.W (G.L i * 6 + G.H i) else if w = 3 then cst G.W cc cn (G.L i) (G.H i) else cst G.W cc cn (G.H i) (G.L i)
theorem c_edgeQ {i w cn : Nat} {cc : Nat → Int} (K : okX v h x Z) (z : okZ Z) (hl : okL Z.2.1) (hc : okC v h x Z.2.1 cn cc) (hi : i < Z.2.1.e) (hw : w ≤ 4) : Cal v mX10_edge 7 0 0 [.ref x, .int (nI i), .int (nI w)] h top (pM v h top x Z (some (.int (nI (edV Z.2.1 cn cc i w))))) noX := by
  have okg := z.1
  have he := okg.2.1
  obtain ⟨l1, l2⟩ := hl i hi
  obtain ⟨s0, T0, hC, hs, hT⟩ := K.2.1.1
  have hg := K.1.2.1
  have hx := K.1.1
  have cost : ∀ a b, a < 6 → b < 6 → Cal v mX0_costOfStep 4 0 0 [.ref (x + 71), .ref (x + 1), .int (nI a), .int (nI b)] h top (fun r h' top' => r = some (.int (nI (cst Z.2.1.W cc cn a b))) ∧ top = top' ∧ okX v h' x Z ∧ frX h h' x) noX := by
    intro a b ha hb
    refine (c_cost (v := v) (h := h) (top := top) (q := x + 71) (g := x + 1) hC hs hg hc.cd (fun k hk => by have := okg.2.2.2.2 k hk; omega) ha hb).mono (fun r h' top' => ?_)
    rintro ⟨rfl, rfl, s, hbs, rfl⟩
    exact ⟨rfl, rfl, K.uC ⟨s, T0, ⟨(hp_ne _ _ (by omega)).trans hC.1, hp_eq _ _ _⟩, hbs, (hp_ne _ _ (by omega)).trans hT⟩ (fun a ha => hp_ne _ _ (by omega)), fun a ha => hp_ne _ _ (by omega)⟩
  refine Cal.ofJ (by decide +kernel) rfl (Nat.le_of_ble_eq_true rfl) fun hz0 => ?_
  refine r_ls [some (.ref x), some (.int (nI i)), some (.int (nI w)), none, none] rfl ?_
  refine r_aload_n (pc := 0) (i := 0) (tX10_edge.at 0 rfl) rfl rfl ?_
  refine r_iload_n (pc := 1) (i := 1) (tX10_edge.at 1 rfl) rfl rfl ?_
  refine r_callV (M' := mX10_requireEdge) (pc := 2) (tX10_edge.at 2 rfl) ml_X10_130 rfl mw_X10_requireEdge ⟨by decide, by decide⟩ (hx) rfl rfl (c_reqE0 hx hg hi (by omega)) rfl rfl (Nat.le_of_ble_eq_true rfl) (Nat.le_of_ble_eq_true rfl) (Nat.le_of_ble_eq_true rfl) ?_
  rintro _ _ _ ⟨rfl, rfl, rfl⟩
  refine r_iload_n (pc := 5) (i := 2) (tX10_edge.at 3 rfl) rfl rfl ?_
  refine r_if_ltN (pc := 6) 14 (tX10_edge.at 4 rfl) (by decide) (by omega) ?_
  refine r_iload_n (pc := 9) (i := 2) (tX10_edge.at 5 rfl) rfl rfl ?_
  refine r_iconst (pc := 10) (w := nI 4) (tX10_edge.at 6 rfl) (by decide) ?_
  refine r_icmp_leN (pc := 11) 24 (tX10_edge.at 7 rfl) (by decide) (by omega) (by omega) (fun _ => ?_) (fun c => by omega)
  refine r_aload_n (pc := 24) (i := 0) (tX10_edge.at 13 rfl) rfl rfl ?_
  refine r_get (pc := 25) (tX10_edge.at 14 rfl) gf_X10_16 (hx) rfl ?_
  refine r_get (pc := 28) (tX10_edge.at 15 rfl) gf_X10_135 (hg.1) rfl ?_
  refine r_iload_n (pc := 31) (i := 1) (tX10_edge.at 16 rfl) rfl rfl ?_
  refine r_iald (pc := 32) (tX10_edge.at 17 rfl) (hg.2.1) (i) (rfl) (by omega) (Nat.le_of_ble_eq_true rfl) ?_
  refine r_istore_n (pc := 33) (i := 3) (tX10_edge.at 18 rfl) rfl (by decide) ?_
  refine r_aload_n (pc := 34) (i := 0) (tX10_edge.at 19 rfl) rfl rfl ?_
  refine r_get (pc := 35) (tX10_edge.at 20 rfl) gf_X10_16 (hx) rfl ?_
  refine r_get (pc := 38) (tX10_edge.at 21 rfl) gf_X10_139 (hg.1) rfl ?_
  refine r_iload_n (pc := 41) (i := 1) (tX10_edge.at 22 rfl) rfl rfl ?_
  refine r_iald (pc := 42) (tX10_edge.at 23 rfl) (hg.2.2.1) (i) (rfl) (by omega) (Nat.le_of_ble_eq_true rfl) ?_
  refine r_istore (pc := 43) (i := 4) (tX10_edge.at 24 rfl) (by decide) ?_
  refine r_iload_n (pc := 45) (i := 2) (tX10_edge.at 25 rfl) rfl rfl ?_
  rcases (show w = 0 ∨ w = 1 ∨ w = 2 ∨ w = 3 ∨ w = 4 by omega) with rfl | rfl | rfl | rfl | rfl
  · refine r_swIn (pc := 46) (off := 30) 76 (tX10_edge.at 26 rfl) (by decide) (by decide) (by decide) (by decide) ?_
    refine r_iload_n (pc := 76) (i := 3) (tX10_edge.at 27 rfl) rfl rfl ?_
    refine r_iret (pc := 77) (tX10_edge.at 28 rfl) rfl (Nat.le_of_ble_eq_true rfl) (Nat.le_of_ble_eq_true rfl) ?_
    exact ⟨rfl, rfl, K, frX.rfl⟩
  · refine r_swIn (pc := 46) (off := 32) 78 (tX10_edge.at 26 rfl) (by decide) (by decide) (by decide) (by decide) ?_
    refine r_iload (pc := 78) (i := 4) (tX10_edge.at 29 rfl) rfl ?_
    refine r_iret (pc := 80) (tX10_edge.at 30 rfl) rfl (Nat.le_of_ble_eq_true rfl) (Nat.le_of_ble_eq_true rfl) ?_
    exact ⟨rfl, rfl, K, frX.rfl⟩
  · refine r_swIn (pc := 46) (off := 35) 81 (tX10_edge.at 26 rfl) (by decide) (by decide) (by decide) (by decide) ?_
    refine r_aload_n (pc := 81) (i := 0) (tX10_edge.at 31 rfl) rfl rfl ?_
    refine r_get (pc := 82) (tX10_edge.at 32 rfl) gf_X10_16 (hx) rfl ?_
    refine r_iload_n (pc := 85) (i := 3) (tX10_edge.at 33 rfl) rfl rfl ?_
    refine r_iload (pc := 86) (i := 4) (tX10_edge.at 34 rfl) rfl ?_
    refine r_callV (M' := mX3_weightBetween) (pc := 88) (tX10_edge.at 35 rfl) ml_X10_142 rfl mw_X3_weightBetween ⟨by decide, by decide⟩ (hg.1) rfl rfl (c_wb hg (a := Z.2.1.L i) (b := Z.2.1.H i) (by omega)) rfl rfl (Nat.le_of_ble_eq_true rfl) (Nat.le_of_ble_eq_true rfl) (Nat.le_of_ble_eq_true rfl) ?_
    rintro _ _ _ ⟨rfl, rfl, rfl⟩
    refine r_iret (pc := 91) (tX10_edge.at 36 rfl) rfl (Nat.le_of_ble_eq_true rfl) (Nat.le_of_ble_eq_true rfl) ?_
    exact ⟨rfl, rfl, K, frX.rfl⟩
  · refine r_swIn (pc := 46) (off := 46) 92 (tX10_edge.at 26 rfl) (by decide) (by decide) (by decide) (by decide) ?_
    refine r_aload_n (pc := 92) (i := 0) (tX10_edge.at 37 rfl) rfl rfl ?_
    refine r_get (pc := 93) (tX10_edge.at 38 rfl) gf_X10_37 (hx) rfl ?_
    refine r_aload_n (pc := 96) (i := 0) (tX10_edge.at 39 rfl) rfl rfl ?_
    refine r_get (pc := 97) (tX10_edge.at 40 rfl) gf_X10_16 (hx) rfl ?_
    refine r_iload_n (pc := 100) (i := 3) (tX10_edge.at 41 rfl) rfl rfl ?_
    refine r_iload (pc := 101) (i := 4) (tX10_edge.at 42 rfl) rfl ?_
    refine r_callV (M' := mX0_costOfStep) (pc := 103) (tX10_edge.at 43 rfl) ml_X10_146 rfl mw_X0_costOfStep ⟨by decide, by decide⟩ (hC.1) rfl rfl (cost (Z.2.1.L i) (Z.2.1.H i) l1 l2) rfl rfl (Nat.le_of_ble_eq_true rfl) (Nat.le_of_ble_eq_true rfl) (Nat.le_of_ble_eq_true rfl) ?_
    rintro _ H1 _ ⟨rfl, rfl, K1, f1⟩
    refine r_iret (pc := 106) (tX10_edge.at 44 rfl) rfl (Nat.le_of_ble_eq_true rfl) (Nat.le_of_ble_eq_true rfl) ?_
    exact ⟨rfl, rfl, K1, f1⟩
  · refine r_swOut (pc := 46) 107 (tX10_edge.at 26 rfl) (by decide) (by decide) ?_
    refine r_aload_n (pc := 107) (i := 0) (tX10_edge.at 45 rfl) rfl rfl ?_
    refine r_get (pc := 108) (tX10_edge.at 46 rfl) gf_X10_37 (hx) rfl ?_
    refine r_aload_n (pc := 111) (i := 0) (tX10_edge.at 47 rfl) rfl rfl ?_
    refine r_get (pc := 112) (tX10_edge.at 48 rfl) gf_X10_16 (hx) rfl ?_
    refine r_iload (pc := 115) (i := 4) (tX10_edge.at 49 rfl) rfl ?_
    refine r_iload_n (pc := 117) (i := 3) (tX10_edge.at 50 rfl) rfl rfl ?_
    refine r_callV (M' := mX0_costOfStep) (pc := 118) (tX10_edge.at 51 rfl) ml_X10_146 rfl mw_X0_costOfStep ⟨by decide, by decide⟩ (hC.1) rfl rfl (cost (Z.2.1.H i) (Z.2.1.L i) l2 l1) rfl rfl (Nat.le_of_ble_eq_true rfl) (Nat.le_of_ble_eq_true rfl) (Nat.le_of_ble_eq_true rfl) ?_
    rintro _ H1 _ ⟨rfl, rfl, K1, f1⟩
    refine r_iret (pc := 121) (tX10_edge.at 52 rfl) rfl (Nat.le_of_ble_eq_true rfl) (Nat.le_of_ble_eq_true rfl) ?_
    exact ⟨rfl, rfl, K1, f1⟩
theorem bcN_c {G L : GT} {g : Nat → Int} (hLn : L.n = G.b) (hb : G.b ≤ 6) (hW : ∀ i j, i < 6 → j < 6 → L.W (i * 6 + j) = lpW G.W G.B G.n G.b G.n i j) (hg : ∀ i, i < 6 → g i = (lgS G.W G.B G.n G.n i : Nat)) {i j : Nat} (hi : i < 6) (hj : j < 6) : bcN L g i j = bcN (lpG G) (lgF G) i j ∧ bcD g i = bcD (lgF G) i := by
  have e1 : g i = lgF G i := hg i hi
  have e2 : L.W (i * 6 + j) = (lpG G).W (i * 6 + j) := by
    rw [hW i j hi hj]
    exact (lpF_at G hj).symm
  have e3 : degN L.W i L.n = degN (lpG G).W i (lpG G).n := by
    rw [hLn]
    exact degN_cong (fun u hu => by
      rw [hW i u hi (by omega)]
      exact (lpF_at G (by omega)).symm)
  constructor
  · unfold bcN
    rw [e1, e2, e3]
  · unfold bcD
    rw [e1]
theorem c_lumpX (K : okX v h x Z) (z : okZ Z) (hB : ∀ k, k < Z.2.1.n → Z.2.1.B k < Z.2.1.b) : Cal v mX5_lumpBlocks 3 0 0 [.ref (x + 74), .ref (x + 1)] h top (fun r h' top' => r = none ∧ top = top' ∧ okX v h' x Z ∧ frX h h' x ∧ ∃ L gn fn, isP v h' (x + 74) L gn fn ∧ L.n = Z.2.1.b ∧ (∀ i j, i < 6 → j < 6 → L.W (i * 6 + j) = lpW Z.2.1.W Z.2.1.B Z.2.1.n Z.2.1.b Z.2.1.n i j) ∧ ∀ i, i < 6 → gn i = (lgS Z.2.1.W Z.2.1.B Z.2.1.n Z.2.1.n i : Nat)) noX := by
  have okg := z.1
  obtain ⟨L, gn, fn, hP⟩ := K.2.1.2.1
  have k := c_lump (v := v) (h := h) (top := top) (q := x + 74) (g := x + 1) (L := L) (gn := gn) (fn := fn) K.1.2.1 (by omega) okg.1 hB okg.b7 z.2.1 okg.2.2.2.2
  rw [hP.self] at k
  refine k.mono (fun r h' top' => ?_)
  rintro ⟨rfl, rfl, L', g', rfl, h1, h2, h3⟩
  exact ⟨rfl, rfl, K.uP ⟨_, _, _, pH_is⟩ (fun a ha => pH_out ha), fun a ha => pH_out (by omega), L', g', fn, pH_is, h1, h2, h3⟩
theorem c_lumpedQ {i j p : Nat} (K : okX v h x Z) (z : okZ Z) (hB : ∀ k, k < Z.2.1.n → Z.2.1.B k < Z.2.1.b) (hi : i < Z.2.1.b) (hj : j < Z.2.1.b) (hpp : p ≤ 1) (hw : ptB Z.2.1 = false) : Cal v mX10_lumped 7 0 0 [.ref x, .int (nI i), .int (nI j), .int (nI p)] h top (pM v h top x Z (some (.int (zI (fp p (rdA (bcN (lpG Z.2.1) (lgF Z.2.1) i j) (bcD (lgF Z.2.1) i)) (rdB (bcN (lpG Z.2.1) (lgF Z.2.1) i j) (bcD (lgF Z.2.1) i))))))) noX := by
  have okg := z.1
  have hb := z.2.1
  obtain ⟨L0, gn0, fn0, hP0⟩ := K.2.1.2.1
  refine Cal.ofJ (by decide +kernel) rfl (Nat.le_of_ble_eq_true rfl) fun hz0 => ?_
  refine r_ls [some (.ref x), some (.int (nI i)), some (.int (nI j)), some (.int (nI p))] rfl ?_
  refine r_aload_n (pc := 0) (i := 0) (tX10_lumped.at 0 rfl) rfl rfl ?_
  refine r_iload_n (pc := 1) (i := 1) (tX10_lumped.at 1 rfl) rfl rfl ?_
  refine r_callV (M' := mX10_requireBlock) (pc := 2) (tX10_lumped.at 2 rfl) ml_X10_229 rfl mw_X10_requireBlock ⟨by decide, by decide⟩ (K.1.1) rfl rfl (c_reqB0 K.1.1 K.1.2.1 hi (by omega)) rfl rfl (Nat.le_of_ble_eq_true rfl) (Nat.le_of_ble_eq_true rfl) (Nat.le_of_ble_eq_true rfl) ?_
  rintro _ _ _ ⟨rfl, rfl, rfl⟩
  refine r_aload_n (pc := 5) (i := 0) (tX10_lumped.at 3 rfl) rfl rfl ?_
  refine r_iload_n (pc := 6) (i := 2) (tX10_lumped.at 4 rfl) rfl rfl ?_
  refine r_callV (M' := mX10_requireBlock) (pc := 7) (tX10_lumped.at 5 rfl) ml_X10_229 rfl mw_X10_requireBlock ⟨by decide, by decide⟩ (K.1.1) rfl rfl (c_reqB0 K.1.1 K.1.2.1 hj (by omega)) rfl rfl (Nat.le_of_ble_eq_true rfl) (Nat.le_of_ble_eq_true rfl) (Nat.le_of_ble_eq_true rfl) ?_
  rintro _ _ _ ⟨rfl, rfl, rfl⟩
  refine r_aload_n (pc := 10) (i := 0) (tX10_lumped.at 6 rfl) rfl rfl ?_
  refine r_callV (M' := mX10_requireLumpable) (pc := 11) (tX10_lumped.at 7 rfl) ml_X10_232 rfl mw_X10_requireLumpable ⟨by decide, by decide⟩ (K.1.1) rfl rfl (c_reqLu0 K.1.1 hP0.1 K.1.2.1 okg hb hw) rfl rfl (Nat.le_of_ble_eq_true rfl) (Nat.le_of_ble_eq_true rfl) (Nat.le_of_ble_eq_true rfl) ?_
  rintro _ _ _ ⟨rfl, rfl, rfl⟩
  refine r_aload_n (pc := 14) (i := 0) (tX10_lumped.at 8 rfl) rfl rfl ?_
  refine r_get (pc := 15) (tX10_lumped.at 9 rfl) gf_X10_44 (K.1.1) rfl ?_
  refine r_aload_n (pc := 18) (i := 0) (tX10_lumped.at 10 rfl) rfl rfl ?_
  refine r_get (pc := 19) (tX10_lumped.at 11 rfl) gf_X10_16 (K.1.1) rfl ?_
  refine r_callV (M' := mX5_lumpBlocks) (pc := 22) (tX10_lumped.at 12 rfl) ml_X10_235 rfl mw_X5_lumpBlocks ⟨by decide, by decide⟩ (hP0.1) rfl rfl (c_lumpX K z hB) rfl rfl (Nat.le_of_ble_eq_true rfl) (Nat.le_of_ble_eq_true rfl) (Nat.le_of_ble_eq_true rfl) ?_
  rintro _ H1 _ ⟨rfl, rfl, K1, f1, L, gn, fn, hP, hLn, hLW, hgn⟩
  obtain ⟨a, b, hA⟩ := K1.2.1.2.2.2.1
  have hgi := hgn i (by omega)
  have hgl := lgS_le (W := Z.2.1.W) (B := Z.2.1.B) (n := Z.2.1.n) (k := Z.2.1.n) (i := i) okg.1 okg.1 okg.2.2.2.2
  have kb := c_bch (v := v) (h := H1) (top := top) (q := x + 74) (f := x + 87) (x := i) (y := j) (L := L) (gn := gn) (fn := fn) hA (by omega) (by omega) (by omega) (by omega) (by omega) (fun k hk => by
    have e := hLW (k / 6) (k % 6) (by omega) (by omega)
    rw [show k / 6 * 6 + k % 6 = k by omega] at e
    rw [e]
    have := lpW_le (W := Z.2.1.W) (B := Z.2.1.B) (n := Z.2.1.n) (nb := Z.2.1.b) (k := Z.2.1.n) (i := k / 6) (j := k % 6) okg.1 okg.1 okg.2.2.2.2
    omega)
  obtain ⟨e1, e2⟩ := bcN_c hLn hb hLW hgn (show i < 6 by omega) (show j < 6 by omega)
  rw [hP.self, ← pH_put (by omega), hP.self, e1, e2] at kb
  refine r_aload_n (pc := 25) (i := 0) (tX10_lumped.at 13 rfl) rfl rfl ?_
  refine r_get (pc := 26) (tX10_lumped.at 14 rfl) gf_X10_44 (K1.1.1) rfl ?_
  refine r_iload_n (pc := 29) (i := 1) (tX10_lumped.at 15 rfl) rfl rfl ?_
  refine r_iload_n (pc := 30) (i := 2) (tX10_lumped.at 16 rfl) rfl rfl ?_
  refine r_aload_n (pc := 31) (i := 0) (tX10_lumped.at 17 rfl) rfl rfl ?_
  refine r_get (pc := 32) (tX10_lumped.at 18 rfl) gf_X10_58 (K1.1.1) rfl ?_
  refine r_callV (M' := mX5_blockChance) (pc := 35) (tX10_lumped.at 19 rfl) ml_X10_238 rfl mw_X5_blockChance ⟨by decide, by decide⟩ (hP.1) rfl rfl (kb) rfl rfl (Nat.le_of_ble_eq_true rfl) (Nat.le_of_ble_eq_true rfl) (Nat.le_of_ble_eq_true rfl) ?_
  rintro _ _ _ ⟨rfl, rfl, rfl⟩
  have K2 : okX v (hp H1 (x + 87) (frE (rdA (bcN (lpG Z.2.1) (lgF Z.2.1) i j) (bcD (lgF Z.2.1) i)) (rdB (bcN (lpG Z.2.1) (lgF Z.2.1) i j) (bcD (lgF Z.2.1) i)))) x Z := K1.uA ⟨_, _, hp_eq _ _ _⟩ (fun a ha => hp_ne _ _ (by omega))
  refine r_aload_n (pc := 38) (i := 0) (tX10_lumped.at 20 rfl) rfl rfl ?_
  refine r_get (pc := 39) (tX10_lumped.at 21 rfl) gf_X10_58 (K2.1.1) rfl ?_
  refine r_iload_n (pc := 42) (i := 3) (tX10_lumped.at 22 rfl) rfl rfl ?_
  refine r_callV (M' := mX2_part) (pc := 43) (tX10_lumped.at 23 rfl) ml_X10_164 rfl mw_X2_part ⟨by decide, by decide⟩ (hp_eq _ _ _) rfl rfl (c_frPart (hp_eq _ _ _) (by omega)) rfl rfl (Nat.le_of_ble_eq_true rfl) (Nat.le_of_ble_eq_true rfl) (Nat.le_of_ble_eq_true rfl) ?_
  rintro _ _ _ ⟨rfl, rfl, rfl⟩
  first | refine r_l2iZ (pc := 46) (tX10_lumped.at 24 rfl) ?_ | refine r_l2i (pc := 46) (tX10_lumped.at 24 rfl) ?_
  refine r_iret (pc := 47) (tX10_lumped.at 25 rfl) rfl (Nat.le_of_ble_eq_true rfl) (Nat.le_of_ble_eq_true rfl) ?_
  exact ⟨rfl, rfl, K2, fun a ha => (hp_ne _ _ (by omega)).trans (f1 a ha)⟩
theorem lpC {G L : GT} (hLn : L.n = G.b) (hb : G.b ≤ 6) (hW : ∀ i j, i < 6 → j < 6 → L.W (i * 6 + j) = lpW G.W G.B G.n G.b G.n i j) : ∀ k u, k < L.n → u < L.n → L.W (k * 6 + u) = lpF G (k * 6 + u) := fun k u hk hu => by
  rw [hW k u (by omega) (by omega), lpF_at G (by omega)]
theorem c_lumpTQ {i j p : Nat} (K : okX v h x Z) (z : okZ Z) (hB : ∀ k, k < Z.2.1.n → Z.2.1.B k < Z.2.1.b) (hi : i < Z.2.1.b) (hj : j < Z.2.1.b) (hpp : p ≤ 1) (hw : ptB Z.2.1 = false) (hway : (rch (lpF Z.2.1) Z.2.1.b i).testBit j = true) (m1 : okM (lpF Z.2.1) Z.2.1.b i j (lgF Z.2.1)) : Cal v mX10_lumpedTime 7 0 0 [.ref x, .int (nI i), .int (nI j), .int (nI p)] h top (pM v h top x Z (some (.long (lI (fp p (muA (lpF Z.2.1) Z.2.1.b i j (lgF Z.2.1)) (muB (lpF Z.2.1) Z.2.1.b i j (lgF Z.2.1))))))) noX := by
  have okg := z.1
  have hb := z.2.1
  obtain ⟨L0, gn0, fn0, hP0⟩ := K.2.1.2.1
  refine Cal.ofJ (by decide +kernel) rfl (Nat.le_of_ble_eq_true rfl) fun hz0 => ?_
  refine r_ls [some (.ref x), some (.int (nI i)), some (.int (nI j)), some (.int (nI p))] rfl ?_
  refine r_aload_n (pc := 0) (i := 0) (tX10_lumpedTime.at 0 rfl) rfl rfl ?_
  refine r_iload_n (pc := 1) (i := 1) (tX10_lumpedTime.at 1 rfl) rfl rfl ?_
  refine r_callV (M' := mX10_requireBlock) (pc := 2) (tX10_lumpedTime.at 2 rfl) ml_X10_229 rfl mw_X10_requireBlock ⟨by decide, by decide⟩ (K.1.1) rfl rfl (c_reqB0 K.1.1 K.1.2.1 hi (by omega)) rfl rfl (Nat.le_of_ble_eq_true rfl) (Nat.le_of_ble_eq_true rfl) (Nat.le_of_ble_eq_true rfl) ?_
  rintro _ _ _ ⟨rfl, rfl, rfl⟩
  refine r_aload_n (pc := 5) (i := 0) (tX10_lumpedTime.at 3 rfl) rfl rfl ?_
  refine r_iload_n (pc := 6) (i := 2) (tX10_lumpedTime.at 4 rfl) rfl rfl ?_
  refine r_callV (M' := mX10_requireBlock) (pc := 7) (tX10_lumpedTime.at 5 rfl) ml_X10_229 rfl mw_X10_requireBlock ⟨by decide, by decide⟩ (K.1.1) rfl rfl (c_reqB0 K.1.1 K.1.2.1 hj (by omega)) rfl rfl (Nat.le_of_ble_eq_true rfl) (Nat.le_of_ble_eq_true rfl) (Nat.le_of_ble_eq_true rfl) ?_
  rintro _ _ _ ⟨rfl, rfl, rfl⟩
  refine r_aload_n (pc := 10) (i := 0) (tX10_lumpedTime.at 6 rfl) rfl rfl ?_
  refine r_callV (M' := mX10_requireLumpable) (pc := 11) (tX10_lumpedTime.at 7 rfl) ml_X10_232 rfl mw_X10_requireLumpable ⟨by decide, by decide⟩ (K.1.1) rfl rfl (c_reqLu0 K.1.1 hP0.1 K.1.2.1 okg hb hw) rfl rfl (Nat.le_of_ble_eq_true rfl) (Nat.le_of_ble_eq_true rfl) (Nat.le_of_ble_eq_true rfl) ?_
  rintro _ _ _ ⟨rfl, rfl, rfl⟩
  refine r_aload_n (pc := 14) (i := 0) (tX10_lumpedTime.at 8 rfl) rfl rfl ?_
  refine r_get (pc := 15) (tX10_lumpedTime.at 9 rfl) gf_X10_44 (K.1.1) rfl ?_
  refine r_aload_n (pc := 18) (i := 0) (tX10_lumpedTime.at 10 rfl) rfl rfl ?_
  refine r_get (pc := 19) (tX10_lumpedTime.at 11 rfl) gf_X10_16 (K.1.1) rfl ?_
  refine r_callV (M' := mX5_lumpBlocks) (pc := 22) (tX10_lumpedTime.at 12 rfl) ml_X10_235 rfl mw_X5_lumpBlocks ⟨by decide, by decide⟩ (hP0.1) rfl rfl (c_lumpX K z hB) rfl rfl (Nat.le_of_ble_eq_true rfl) (Nat.le_of_ble_eq_true rfl) (Nat.le_of_ble_eq_true rfl) ?_
  rintro _ H1 _ ⟨rfl, rfl, K1, f1, L, gn, fn, hP, hLn, hLW, hgn⟩
  obtain ⟨a, b, hA⟩ := K1.2.1.2.2.2.1
  obtain ⟨C, U, k, hE⟩ := K1.2.1.2.2.1
  have hLb : ∀ k, k < 36 → L.W k ≤ 1000000 := fun k hk => by
    have e := hLW (k / 6) (k % 6) (by omega) (by omega)
    rw [show k / 6 * 6 + k % 6 = k by omega] at e
    rw [e]
    have := lpW_le (W := Z.2.1.W) (B := Z.2.1.B) (n := Z.2.1.n) (nb := Z.2.1.b) (k := Z.2.1.n) (i := k / 6) (j := k % 6) okg.1 okg.1 okg.2.2.2.2
    omega
  have hcw := lpC hLn hb hLW
  have hrc : rch L.W L.n i = rch (lpF Z.2.1) Z.2.1.b i := by
    rw [← hLn]
    exact rch_cong hcw
  obtain ⟨c1, c2, c3, c4⟩ := mu_congW (W := L.W) (W2 := lpF Z.2.1) (n := L.n) (i := i) (j := j) (g := gn) (g2 := lgF Z.2.1) (by omega) hcw (fun k hk => hgn k (by omega))
  rw [hLn] at c1 c2 c3 c4
  refine r_aload_n (pc := 25) (i := 0) (tX10_lumpedTime.at 13 rfl) rfl rfl ?_
  refine r_get (pc := 26) (tX10_lumpedTime.at 14 rfl) gf_X10_44 (K1.1.1) rfl ?_
  refine r_get (pc := 29) (tX10_lumpedTime.at 15 rfl) gf_X10_241 (hP.1) rfl ?_
  refine r_iload_n (pc := 32) (i := 1) (tX10_lumpedTime.at 16 rfl) rfl rfl ?_
  refine r_iload_n (pc := 33) (i := 2) (tX10_lumpedTime.at 17 rfl) rfl rfl ?_
  refine r_callV (M' := mX3_hasWay) (pc := 34) (tX10_lumpedTime.at 18 rfl) ml_X10_244 rfl mw_X3_hasWay ⟨by decide, by decide⟩ (hP.2.1.1) rfl rfl (c_hasWay hP.2.1 (by omega) (x := i) (y := j) (by omega) (by omega) (fun k hk => by have := hLb k hk; omega)) rfl rfl (Nat.le_of_ble_eq_true rfl) (Nat.le_of_ble_eq_true rfl) (Nat.le_of_ble_eq_true rfl) ?_
  rintro _ _ _ ⟨rfl, rfl, rfl⟩
  rw [hrc, hway]
  refine r_if_neN (pc := 37) 50 (tX10_lumpedTime.at 19 rfl) (by decide) (by decide) (fun _ => ?_) (fun z => absurd z (by decide))
  have cm := c_mean (v := v) (h := H1) (top := top) (q := x + 83) (g := x + 75) (ga := x + 81) (f := x + 87) (x := i) (y := j) (k := k) (C := C) (U := U) (Gn := gn) (G := L) hP.2.1 (by omega) (fun C U k => (eH_out (by omega)).trans hP.2.2.1) hA (by omega) (by omega) (by omega) (by omega) hLb (by rw [hLn, c1, c2]; exact m1)
  rw [hE.self, hLn, c3, c4] at cm
  refine r_aload_n (pc := 50) (i := 0) (tX10_lumpedTime.at 25 rfl) rfl rfl ?_
  refine r_get (pc := 51) (tX10_lumpedTime.at 26 rfl) gf_X10_51 (K1.1.1) rfl ?_
  refine r_aload_n (pc := 54) (i := 0) (tX10_lumpedTime.at 27 rfl) rfl rfl ?_
  refine r_get (pc := 55) (tX10_lumpedTime.at 28 rfl) gf_X10_44 (K1.1.1) rfl ?_
  refine r_get (pc := 58) (tX10_lumpedTime.at 29 rfl) gf_X10_241 (hP.1) rfl ?_
  refine r_iload_n (pc := 61) (i := 1) (tX10_lumpedTime.at 30 rfl) rfl rfl ?_
  refine r_iload_n (pc := 62) (i := 2) (tX10_lumpedTime.at 31 rfl) rfl rfl ?_
  refine r_aload_n (pc := 63) (i := 0) (tX10_lumpedTime.at 32 rfl) rfl rfl ?_
  refine r_get (pc := 64) (tX10_lumpedTime.at 33 rfl) gf_X10_44 (K1.1.1) rfl ?_
  refine r_get (pc := 67) (tX10_lumpedTime.at 34 rfl) gf_X10_253 (hP.1) rfl ?_
  refine r_aload_n (pc := 70) (i := 0) (tX10_lumpedTime.at 35 rfl) rfl rfl ?_
  refine r_get (pc := 71) (tX10_lumpedTime.at 36 rfl) gf_X10_58 (K1.1.1) rfl ?_
  refine r_callV (M' := mX1_meanUntil) (pc := 74) (tX10_lumpedTime.at 37 rfl) ml_X10_175 rfl mw_X1_meanUntil ⟨by decide, by decide⟩ (hE.1) rfl rfl (cm) rfl rfl (Nat.le_of_ble_eq_true rfl) (Nat.le_of_ble_eq_true rfl) (Nat.le_of_ble_eq_true rfl) ?_
  rintro _ _ _ ⟨rfl, rfl, C', U', k', rfl⟩
  have K2 : okX v (eH v (hp H1 (x + 87) (frE (muA (lpF Z.2.1) Z.2.1.b i j (lgF Z.2.1)) (muB (lpF Z.2.1) Z.2.1.b i j (lgF Z.2.1)))) (x + 83) C' U' k') x Z := (K1.uA ⟨_, _, hp_eq _ _ _⟩ (fun a ha => hp_ne _ _ (by omega))).uE ⟨_, _, _, eH_is⟩ (fun a ha => eH_out ha)
  have hA2 : eH v (hp H1 (x + 87) (frE (muA (lpF Z.2.1) Z.2.1.b i j (lgF Z.2.1)) (muB (lpF Z.2.1) Z.2.1.b i j (lgF Z.2.1)))) (x + 83) C' U' k' (x + 87) = some (frE (muA (lpF Z.2.1) Z.2.1.b i j (lgF Z.2.1)) (muB (lpF Z.2.1) Z.2.1.b i j (lgF Z.2.1))) := (eH_out (by omega)).trans (hp_eq _ _ _)
  refine r_aload_n (pc := 77) (i := 0) (tX10_lumpedTime.at 38 rfl) rfl rfl ?_
  refine r_get (pc := 78) (tX10_lumpedTime.at 39 rfl) gf_X10_58 (K2.1.1) rfl ?_
  refine r_iload_n (pc := 81) (i := 3) (tX10_lumpedTime.at 40 rfl) rfl rfl ?_
  refine r_callV (M' := mX2_part) (pc := 82) (tX10_lumpedTime.at 41 rfl) ml_X10_164 rfl mw_X2_part ⟨by decide, by decide⟩ (hA2) rfl rfl (c_frPart hA2 (by omega)) rfl rfl (Nat.le_of_ble_eq_true rfl) (Nat.le_of_ble_eq_true rfl) (Nat.le_of_ble_eq_true rfl) ?_
  rintro _ _ _ ⟨rfl, rfl, rfl⟩
  refine r_lret (pc := 85) (tX10_lumpedTime.at 42 rfl) rfl (Nat.le_of_ble_eq_true rfl) (Nat.le_of_ble_eq_true rfl) ?_
  exact ⟨rfl, rfl, K2, fun a ha => ((eH_out (by omega)).trans (hp_ne _ _ (by omega))).trans (f1 a ha)⟩
theorem x_lumpedTime_3 {i j p : Nat} (K : okX v h x Z) (z : okZ Z) (hB : ∀ k, k < Z.2.1.n → Z.2.1.B k < Z.2.1.b) (hi : i < Z.2.1.b) (hj : j < Z.2.1.b) (hpp : p ≤ 1) (hw : ptB Z.2.1 = false) (hway : (rch (lpF Z.2.1) Z.2.1.b i).testBit j = false) : Cal v mX10_lumpedTime 7 1 6 [.ref x, .int (nI i), .int (nI j), .int (nI p)] h top fX (fun E h' top' => E = isE' ∧ okX v h' x Z ∧ frX h h' x ∧ top ≤ top') := by
  have okg := z.1
  have hb := z.2.1
  obtain ⟨L0, gn0, fn0, hP0⟩ := K.2.1.2.1
  refine Cal.ofJ (by decide +kernel) rfl (Nat.le_of_ble_eq_true rfl) fun hz0 => ?_
  refine r_ls [some (.ref x), some (.int (nI i)), some (.int (nI j)), some (.int (nI p))] rfl ?_
  refine r_aload_n (pc := 0) (i := 0) (tX10_lumpedTime.at 0 rfl) rfl rfl ?_
  refine r_iload_n (pc := 1) (i := 1) (tX10_lumpedTime.at 1 rfl) rfl rfl ?_
  refine r_callV (M' := mX10_requireBlock) (pc := 2) (tX10_lumpedTime.at 2 rfl) ml_X10_229 rfl mw_X10_requireBlock ⟨by decide, by decide⟩ (K.1.1) rfl rfl (c_reqB0 K.1.1 K.1.2.1 hi (by omega)) rfl rfl (Nat.le_of_ble_eq_true rfl) (Nat.le_of_ble_eq_true rfl) (Nat.le_of_ble_eq_true rfl) ?_
  rintro _ _ _ ⟨rfl, rfl, rfl⟩
  refine r_aload_n (pc := 5) (i := 0) (tX10_lumpedTime.at 3 rfl) rfl rfl ?_
  refine r_iload_n (pc := 6) (i := 2) (tX10_lumpedTime.at 4 rfl) rfl rfl ?_
  refine r_callV (M' := mX10_requireBlock) (pc := 7) (tX10_lumpedTime.at 5 rfl) ml_X10_229 rfl mw_X10_requireBlock ⟨by decide, by decide⟩ (K.1.1) rfl rfl (c_reqB0 K.1.1 K.1.2.1 hj (by omega)) rfl rfl (Nat.le_of_ble_eq_true rfl) (Nat.le_of_ble_eq_true rfl) (Nat.le_of_ble_eq_true rfl) ?_
  rintro _ _ _ ⟨rfl, rfl, rfl⟩
  refine r_aload_n (pc := 10) (i := 0) (tX10_lumpedTime.at 6 rfl) rfl rfl ?_
  refine r_callV (M' := mX10_requireLumpable) (pc := 11) (tX10_lumpedTime.at 7 rfl) ml_X10_232 rfl mw_X10_requireLumpable ⟨by decide, by decide⟩ (K.1.1) rfl rfl (c_reqLu0 K.1.1 hP0.1 K.1.2.1 okg hb hw) rfl rfl (Nat.le_of_ble_eq_true rfl) (Nat.le_of_ble_eq_true rfl) (Nat.le_of_ble_eq_true rfl) ?_
  rintro _ _ _ ⟨rfl, rfl, rfl⟩
  refine r_aload_n (pc := 14) (i := 0) (tX10_lumpedTime.at 8 rfl) rfl rfl ?_
  refine r_get (pc := 15) (tX10_lumpedTime.at 9 rfl) gf_X10_44 (K.1.1) rfl ?_
  refine r_aload_n (pc := 18) (i := 0) (tX10_lumpedTime.at 10 rfl) rfl rfl ?_
  refine r_get (pc := 19) (tX10_lumpedTime.at 11 rfl) gf_X10_16 (K.1.1) rfl ?_
  refine r_callV (M' := mX5_lumpBlocks) (pc := 22) (tX10_lumpedTime.at 12 rfl) ml_X10_235 rfl mw_X5_lumpBlocks ⟨by decide, by decide⟩ (hP0.1) rfl rfl (c_lumpX K z hB) rfl rfl (Nat.le_of_ble_eq_true rfl) (Nat.le_of_ble_eq_true rfl) (Nat.le_of_ble_eq_true rfl) ?_
  rintro _ H1 _ ⟨rfl, rfl, K1, f1, L, gn, fn, hP, hLn, hLW, hgn⟩
  have hLb : ∀ k, k < 36 → L.W k < 2147483648 := fun k hk => by
    have e := hLW (k / 6) (k % 6) (by omega) (by omega)
    rw [show k / 6 * 6 + k % 6 = k by omega] at e
    rw [e]
    have := lpW_le (W := Z.2.1.W) (B := Z.2.1.B) (n := Z.2.1.n) (nb := Z.2.1.b) (k := Z.2.1.n) (i := k / 6) (j := k % 6) okg.1 okg.1 okg.2.2.2.2
    omega
  have hrc : rch L.W L.n i = rch (lpF Z.2.1) Z.2.1.b i := by
    rw [← hLn]
    exact rch_cong (lpC hLn hb hLW)
  refine r_aload_n (pc := 25) (i := 0) (tX10_lumpedTime.at 13 rfl) rfl rfl ?_
  refine r_get (pc := 26) (tX10_lumpedTime.at 14 rfl) gf_X10_44 (K1.1.1) rfl ?_
  refine r_get (pc := 29) (tX10_lumpedTime.at 15 rfl) gf_X10_241 (hP.1) rfl ?_
  refine r_iload_n (pc := 32) (i := 1) (tX10_lumpedTime.at 16 rfl) rfl rfl ?_
  refine r_iload_n (pc := 33) (i := 2) (tX10_lumpedTime.at 17 rfl) rfl rfl ?_
  refine r_callV (M' := mX3_hasWay) (pc := 34) (tX10_lumpedTime.at 18 rfl) ml_X10_244 rfl mw_X3_hasWay ⟨by decide, by decide⟩ (hP.2.1.1) rfl rfl (c_hasWay hP.2.1 (by omega) (x := i) (y := j) (by omega) (by omega) hLb) rfl rfl (Nat.le_of_ble_eq_true rfl) (Nat.le_of_ble_eq_true rfl) (Nat.le_of_ble_eq_true rfl) ?_
  rintro _ _ _ ⟨rfl, rfl, rfl⟩
  rw [hrc, hway]
  refine r_if_neN (pc := 37) 50 (tX10_lumpedTime.at 19 rfl) (by decide) (by decide) (fun z => absurd rfl z) (fun _ => ?_)
  refine r_throw 17 (pc := 40) rfl xw_X10_248 rfl (tX10_lumpedTime.at 20 rfl) (tX10_lumpedTime.at 21 rfl) (tX10_lumpedTime.at 22 rfl) (tX10_lumpedTime.at 23 rfl) (tX10_lumpedTime.at 24 rfl) (Nat.le_of_ble_eq_true rfl) (Nat.le_of_ble_eq_true rfl) (Nat.le_of_ble_eq_true rfl) (Nat.le_of_ble_eq_true rfl) (Nat.le_of_ble_eq_true rfl) (Nat.le_of_ble_eq_true rfl) (fun top2 ht2 => ?_)
  exact ⟨rfl, K1, f1, ht2⟩
def ck1 (G : GT) : Nat → Int
  | 0 => 31 * (G.n : Nat) + (G.a : Nat)
  | e + 1 => 31 * (31 * (31 * ck1 G e + (G.L e : Nat)) + (G.H e : Nat)) + (G.W (G.L e * 6 + G.H e) : Nat)
def ck2 (G : GT) : Nat → Int
  | 0 => ck1 G G.e
  | u + 1 => 31 * ck2 G u + (G.B u : Nat)
theorem c_cksum (K : okX v h x Z) (z : okZ Z) (hl : okL Z.2.1) (ok : 2 ≤ Z.2.1.n → okA (trM Z.2.1.W Z.2.1.n) (trK Z.2.1.n)) : Cal v mX10_checksum 7 0 0 [.ref x] h top (pM v h top x Z (some (.long (lI (31 * ck2 Z.2.1 Z.2.1.n + trC Z.2.1))))) noX := by
  have okg := z.1
  have h6 := okg.1
  have he := okg.2.1
  have ha := okg.2.2.1
  have hx := K.1.1
  have hg := K.1.2.1
  refine Cal.ofJ (by decide +kernel) rfl (Nat.le_of_ble_eq_true rfl) fun hz0 => ?_
  refine r_ls [some (.ref x), none, none, none, none, none] rfl ?_
  refine r_aload_n (pc := 0) (i := 0) (tX10_checksum.at 0 rfl) rfl rfl ?_
  refine r_get (pc := 1) (tX10_checksum.at 1 rfl) gf_X10_16 (hx) rfl ?_
  refine r_get (pc := 4) (tX10_checksum.at 2 rfl) gf_X10_127 (hg.1) rfl ?_
  first | refine r_i2lN (pc := 7) (tX10_checksum.at 3 rfl) (by omega) ?_ | refine r_i2lZ (pc := 7) (tX10_checksum.at 3 rfl) ⟨by omega, by omega⟩ ?_ | refine r_i2l (pc := 7) (tX10_checksum.at 3 rfl) ?_
  refine r_lstore_n (pc := 8) (i := 1) (tX10_checksum.at 4 rfl) rfl (by decide) ?_
  refine r_ldc2 (pc := 9) (tX10_checksum.at 5 rfl) lcL_X10_307 ?_
  refine r_lload_n (pc := 12) (i := 1) (tX10_checksum.at 6 rfl) rfl rfl ?_
  first | refine r_lmulL (pc := 13) (tX10_checksum.at 7 rfl) ?_ | refine r_lmul (pc := 13) (tX10_checksum.at 7 rfl) ?_
  refine r_aload_n (pc := 14) (i := 0) (tX10_checksum.at 8 rfl) rfl rfl ?_
  refine r_get (pc := 15) (tX10_checksum.at 9 rfl) gf_X10_16 (hx) rfl ?_
  refine r_get (pc := 18) (tX10_checksum.at 10 rfl) gf_X10_197 (hg.1) rfl ?_
  first | refine r_i2lN (pc := 21) (tX10_checksum.at 11 rfl) (by omega) ?_ | refine r_i2lZ (pc := 21) (tX10_checksum.at 11 rfl) ⟨by omega, by omega⟩ ?_ | refine r_i2l (pc := 21) (tX10_checksum.at 11 rfl) ?_
  first | refine r_laddL (pc := 22) (tX10_checksum.at 12 rfl) ?_ | refine r_ladd (pc := 22) (tX10_checksum.at 12 rfl) ?_
  refine r_lstore_n (pc := 23) (i := 1) (tX10_checksum.at 13 rfl) rfl (by decide) ?_
  refine r_iconst (pc := 24) (w := nI 0) (tX10_checksum.at 14 rfl) (by decide) ?_
  refine r_istore_n (pc := 25) (i := 3) (tX10_checksum.at 15 rfl) rfl (by decide) ?_
  generalize hPo : pM v h top x Z (some (.long (lI (31 * ck2 Z.2.1 Z.2.1.n + trC Z.2.1)))) = Po
  have key2 : ∀ m u o4 o5, u + m = Z.2.1.n → J v mX10_checksum (rmOf 7 0 0) (KM v Po noX 0 0) top 0 0 h top 106 [some (.ref x), some (.long (lI (ck2 Z.2.1 u))), none, some (.int (nI u)), o4, o5] [] := by
    intro m
    induction m with
    | zero =>
      intro u o4 o5 hu
      have hu : u = Z.2.1.n := by omega
      subst hu
      refine r_iload_n (pc := 106) (i := 3) (tX10_checksum.at 62 rfl) rfl rfl ?_
      refine r_aload_n (pc := 107) (i := 0) (tX10_checksum.at 63 rfl) rfl rfl ?_
      refine r_get (pc := 108) (tX10_checksum.at 64 rfl) gf_X10_16 (hx) rfl ?_
      refine r_get (pc := 111) (tX10_checksum.at 65 rfl) gf_X10_127 (hg.1) rfl ?_
      refine r_icmp_geN (pc := 114) 140 (tX10_checksum.at 66 rfl) (by decide) (by omega) (by omega) (fun _ => ?_) (fun c => by omega)
      refine r_ldc2 (pc := 140) (tX10_checksum.at 80 rfl) lcL_X10_307 ?_
      refine r_lload_n (pc := 143) (i := 1) (tX10_checksum.at 81 rfl) rfl rfl ?_
      first | refine r_lmulL (pc := 144) (tX10_checksum.at 82 rfl) ?_ | refine r_lmul (pc := 144) (tX10_checksum.at 82 rfl) ?_
      refine r_aload_n (pc := 145) (i := 0) (tX10_checksum.at 83 rfl) rfl rfl ?_
      refine r_callV (M' := mX10_countTrees) (pc := 146) (tX10_checksum.at 84 rfl) ml_X10_193 rfl mw_X10_countTrees ⟨by decide, by decide⟩ (hx) rfl rfl (c_treesX K okg ok) rfl rfl (Nat.le_of_ble_eq_true rfl) (Nat.le_of_ble_eq_true rfl) (Nat.le_of_ble_eq_true rfl) ?_
      rintro _ H1 _ ⟨rfl, rfl, K1, f1⟩
      first | refine r_laddL (pc := 149) (tX10_checksum.at 85 rfl) ?_ | refine r_ladd (pc := 149) (tX10_checksum.at 85 rfl) ?_
      refine r_lret (pc := 150) (tX10_checksum.at 86 rfl) rfl (Nat.le_of_ble_eq_true rfl) (Nat.le_of_ble_eq_true rfl) ?_
      subst hPo
      exact ⟨rfl, rfl, K1, fun a ha => f1 a (by omega)⟩
    | succ m ih =>
      intro u o4 o5 hu
      have hB := okg.2.2.2.1 u (by omega)
      refine r_iload_n (pc := 106) (i := 3) (tX10_checksum.at 62 rfl) rfl rfl ?_
      refine r_aload_n (pc := 107) (i := 0) (tX10_checksum.at 63 rfl) rfl rfl ?_
      refine r_get (pc := 108) (tX10_checksum.at 64 rfl) gf_X10_16 (hx) rfl ?_
      refine r_get (pc := 111) (tX10_checksum.at 65 rfl) gf_X10_127 (hg.1) rfl ?_
      refine r_icmp_geN (pc := 114) 140 (tX10_checksum.at 66 rfl) (by decide) (by omega) (by omega) (fun c => by omega) (fun _ => ?_)
      refine r_ldc2 (pc := 117) (tX10_checksum.at 67 rfl) lcL_X10_307 ?_
      refine r_lload_n (pc := 120) (i := 1) (tX10_checksum.at 68 rfl) rfl rfl ?_
      first | refine r_lmulL (pc := 121) (tX10_checksum.at 69 rfl) ?_ | refine r_lmul (pc := 121) (tX10_checksum.at 69 rfl) ?_
      refine r_aload_n (pc := 122) (i := 0) (tX10_checksum.at 70 rfl) rfl rfl ?_
      refine r_get (pc := 123) (tX10_checksum.at 71 rfl) gf_X10_16 (hx) rfl ?_
      refine r_get (pc := 126) (tX10_checksum.at 72 rfl) gf_X10_219 (hg.1) rfl ?_
      refine r_iload_n (pc := 129) (i := 3) (tX10_checksum.at 73 rfl) rfl rfl ?_
      refine r_iald (pc := 130) (tX10_checksum.at 74 rfl) (hg.2.2.2.2.1) (u) (rfl) (by omega) (Nat.le_of_ble_eq_true rfl) ?_
      rw [show iF Z.2.1.B u = nI (Z.2.1.B u) from rfl]
      first | refine r_i2lN (pc := 131) (tX10_checksum.at 75 rfl) (by omega) ?_ | refine r_i2lZ (pc := 131) (tX10_checksum.at 75 rfl) ⟨by omega, by omega⟩ ?_ | refine r_i2l (pc := 131) (tX10_checksum.at 75 rfl) ?_
      first | refine r_laddL (pc := 132) (tX10_checksum.at 76 rfl) ?_ | refine r_ladd (pc := 132) (tX10_checksum.at 76 rfl) ?_
      refine r_lstore_n (pc := 133) (i := 1) (tX10_checksum.at 77 rfl) rfl (by decide) ?_
      first | refine r_iincN (pc := 134) (tX10_checksum.at 78 rfl) rfl (by decide) ?_ | refine r_iinc (pc := 134) (tX10_checksum.at 78 rfl) rfl rfl (by decide) ?_
      refine r_goto (pc := 137) 106 (tX10_checksum.at 79 rfl) (by decide) ?_
      exact ih (u + 1) _ _ (by omega)
  have key1 : ∀ m u o4 o5, u + m = Z.2.1.e → J v mX10_checksum (rmOf 7 0 0) (KM v Po noX 0 0) top 0 0 h top 26 [some (.ref x), some (.long (lI (ck1 Z.2.1 u))), none, some (.int (nI u)), o4, o5] [] := by
    intro m
    induction m with
    | zero =>
      intro u o4 o5 hu
      have hu : u = Z.2.1.e := by omega
      subst hu
      refine r_iload_n (pc := 26) (i := 3) (tX10_checksum.at 16 rfl) rfl rfl ?_
      refine r_aload_n (pc := 27) (i := 0) (tX10_checksum.at 17 rfl) rfl rfl ?_
      refine r_get (pc := 28) (tX10_checksum.at 18 rfl) gf_X10_16 (hx) rfl ?_
      refine r_get (pc := 31) (tX10_checksum.at 19 rfl) gf_X10_124 (hg.1) rfl ?_
      refine r_icmp_geN (pc := 34) 104 (tX10_checksum.at 20 rfl) (by decide) (by omega) (by omega) (fun _ => ?_) (fun c => by omega)
      refine r_iconst (pc := 104) (w := nI 0) (tX10_checksum.at 60 rfl) (by decide) ?_
      refine r_istore_n (pc := 105) (i := 3) (tX10_checksum.at 61 rfl) rfl (by decide) ?_
      exact key2 Z.2.1.n 0 _ _ (by omega)
    | succ m ih =>
      intro u o4 o5 hu
      obtain ⟨l1, l2⟩ := hl u (by omega)
      have hw := okg.2.2.2.2 (Z.2.1.L u * 6 + Z.2.1.H u) (by omega)
      refine r_iload_n (pc := 26) (i := 3) (tX10_checksum.at 16 rfl) rfl rfl ?_
      refine r_aload_n (pc := 27) (i := 0) (tX10_checksum.at 17 rfl) rfl rfl ?_
      refine r_get (pc := 28) (tX10_checksum.at 18 rfl) gf_X10_16 (hx) rfl ?_
      refine r_get (pc := 31) (tX10_checksum.at 19 rfl) gf_X10_124 (hg.1) rfl ?_
      refine r_icmp_geN (pc := 34) 104 (tX10_checksum.at 20 rfl) (by decide) (by omega) (by omega) (fun c => by omega) (fun _ => ?_)
      refine r_aload_n (pc := 37) (i := 0) (tX10_checksum.at 21 rfl) rfl rfl ?_
      refine r_get (pc := 38) (tX10_checksum.at 22 rfl) gf_X10_16 (hx) rfl ?_
      refine r_get (pc := 41) (tX10_checksum.at 23 rfl) gf_X10_135 (hg.1) rfl ?_
      refine r_iload_n (pc := 44) (i := 3) (tX10_checksum.at 24 rfl) rfl rfl ?_
      refine r_iald (pc := 45) (tX10_checksum.at 25 rfl) (hg.2.1) (u) (rfl) (by omega) (Nat.le_of_ble_eq_true rfl) ?_
      rw [show iF Z.2.1.L u = nI (Z.2.1.L u) from rfl]
      refine r_istore (pc := 46) (i := 4) (tX10_checksum.at 26 rfl) (by decide) ?_
      refine r_aload_n (pc := 48) (i := 0) (tX10_checksum.at 27 rfl) rfl rfl ?_
      refine r_get (pc := 49) (tX10_checksum.at 28 rfl) gf_X10_16 (hx) rfl ?_
      refine r_get (pc := 52) (tX10_checksum.at 29 rfl) gf_X10_139 (hg.1) rfl ?_
      refine r_iload_n (pc := 55) (i := 3) (tX10_checksum.at 30 rfl) rfl rfl ?_
      refine r_iald (pc := 56) (tX10_checksum.at 31 rfl) (hg.2.2.1) (u) (rfl) (by omega) (Nat.le_of_ble_eq_true rfl) ?_
      rw [show iF Z.2.1.H u = nI (Z.2.1.H u) from rfl]
      refine r_istore (pc := 57) (i := 5) (tX10_checksum.at 32 rfl) (by decide) ?_
      refine r_ldc2 (pc := 59) (tX10_checksum.at 33 rfl) lcL_X10_307 ?_
      refine r_lload_n (pc := 62) (i := 1) (tX10_checksum.at 34 rfl) rfl rfl ?_
      first | refine r_lmulL (pc := 63) (tX10_checksum.at 35 rfl) ?_ | refine r_lmul (pc := 63) (tX10_checksum.at 35 rfl) ?_
      refine r_iload (pc := 64) (i := 4) (tX10_checksum.at 36 rfl) rfl ?_
      first | refine r_i2lN (pc := 66) (tX10_checksum.at 37 rfl) (by omega) ?_ | refine r_i2lZ (pc := 66) (tX10_checksum.at 37 rfl) ⟨by omega, by omega⟩ ?_ | refine r_i2l (pc := 66) (tX10_checksum.at 37 rfl) ?_
      first | refine r_laddL (pc := 67) (tX10_checksum.at 38 rfl) ?_ | refine r_ladd (pc := 67) (tX10_checksum.at 38 rfl) ?_
      refine r_lstore_n (pc := 68) (i := 1) (tX10_checksum.at 39 rfl) rfl (by decide) ?_
      refine r_ldc2 (pc := 69) (tX10_checksum.at 40 rfl) lcL_X10_307 ?_
      refine r_lload_n (pc := 72) (i := 1) (tX10_checksum.at 41 rfl) rfl rfl ?_
      first | refine r_lmulL (pc := 73) (tX10_checksum.at 42 rfl) ?_ | refine r_lmul (pc := 73) (tX10_checksum.at 42 rfl) ?_
      refine r_iload (pc := 74) (i := 5) (tX10_checksum.at 43 rfl) rfl ?_
      first | refine r_i2lN (pc := 76) (tX10_checksum.at 44 rfl) (by omega) ?_ | refine r_i2lZ (pc := 76) (tX10_checksum.at 44 rfl) ⟨by omega, by omega⟩ ?_ | refine r_i2l (pc := 76) (tX10_checksum.at 44 rfl) ?_
      first | refine r_laddL (pc := 77) (tX10_checksum.at 45 rfl) ?_ | refine r_ladd (pc := 77) (tX10_checksum.at 45 rfl) ?_
      refine r_lstore_n (pc := 78) (i := 1) (tX10_checksum.at 46 rfl) rfl (by decide) ?_
      refine r_ldc2 (pc := 79) (tX10_checksum.at 47 rfl) lcL_X10_307 ?_
      refine r_lload_n (pc := 82) (i := 1) (tX10_checksum.at 48 rfl) rfl rfl ?_
      first | refine r_lmulL (pc := 83) (tX10_checksum.at 49 rfl) ?_ | refine r_lmul (pc := 83) (tX10_checksum.at 49 rfl) ?_
      refine r_aload_n (pc := 84) (i := 0) (tX10_checksum.at 50 rfl) rfl rfl ?_
      refine r_get (pc := 85) (tX10_checksum.at 51 rfl) gf_X10_16 (hx) rfl ?_
      refine r_iload (pc := 88) (i := 4) (tX10_checksum.at 52 rfl) rfl ?_
      refine r_iload (pc := 90) (i := 5) (tX10_checksum.at 53 rfl) rfl ?_
      refine r_callV (M' := mX3_weightBetween) (pc := 92) (tX10_checksum.at 54 rfl) ml_X10_142 rfl mw_X3_weightBetween ⟨by decide, by decide⟩ (hg.1) rfl rfl (c_wb hg (a := Z.2.1.L u) (b := Z.2.1.H u) (by omega)) rfl rfl (Nat.le_of_ble_eq_true rfl) (Nat.le_of_ble_eq_true rfl) (Nat.le_of_ble_eq_true rfl) ?_
      rintro _ _ _ ⟨rfl, rfl, rfl⟩
      first | refine r_i2lN (pc := 95) (tX10_checksum.at 55 rfl) (by omega) ?_ | refine r_i2lZ (pc := 95) (tX10_checksum.at 55 rfl) ⟨by omega, by omega⟩ ?_ | refine r_i2l (pc := 95) (tX10_checksum.at 55 rfl) ?_
      first | refine r_laddL (pc := 96) (tX10_checksum.at 56 rfl) ?_ | refine r_ladd (pc := 96) (tX10_checksum.at 56 rfl) ?_
      refine r_lstore_n (pc := 97) (i := 1) (tX10_checksum.at 57 rfl) rfl (by decide) ?_
      first | refine r_iincN (pc := 98) (tX10_checksum.at 58 rfl) rfl (by decide) ?_ | refine r_iinc (pc := 98) (tX10_checksum.at 58 rfl) rfl rfl (by decide) ?_
      refine r_goto (pc := 101) 26 (tX10_checksum.at 59 rfl) (by decide) ?_
      exact ih (u + 1) _ _ (by omega)
  exact key1 Z.2.1.e 0 _ _ (by omega)
end

