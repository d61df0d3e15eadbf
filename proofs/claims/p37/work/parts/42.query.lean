/-! ===== the component's answers ===== -/
section
variable {v : Ev} {h : Hp} {top x : Nat} {Z : CS}
theorem frX.rfl : frX h h x := fun _ _ => Eq.refl _
def fp (p : Nat) (a b : Int) : Int := if p = 0 then a else b
theorem c_absb (K : okX v h x Z) : Cal v mX10_absorbing 1 0 0 [.ref x] h top (pM v h top x Z (some (.int (nI Z.2.1.a)))) noX := by
  refine Cal.ofJ (by decide +kernel) rfl (Nat.le_of_ble_eq_true rfl) fun hz0 => ?_
  refine r_ls [some (.ref x)] rfl ?_
  refine r_aload_n (pc := 0) (i := 0) (tX10_absorbing.at 0 rfl) rfl rfl ?_
  refine r_get (pc := 1) (tX10_absorbing.at 1 rfl) gf_X10_16 (K.1.1) rfl ?_
  refine r_get (pc := 4) (tX10_absorbing.at 2 rfl) gf_X10_197 (K.1.2.1.1) rfl ?_
  refine r_iret (pc := 7) (tX10_absorbing.at 3 rfl) rfl (Nat.le_of_ble_eq_true rfl) (Nat.le_of_ble_eq_true rfl) ?_
  exact ⟨rfl, rfl, K, frX.rfl⟩
theorem c_degr {i : Nat} (K : okX v h x Z) (z : okZ Z) (hi : i < Z.2.1.n) : Cal v mX10_degree 3 0 0 [.ref x, .int (nI i)] h top (pM v h top x Z (some (.int (nI (degN Z.2.1.W i Z.2.1.n))))) noX := by
  have okg := z.1
  have h6 := okg.1
  refine Cal.ofJ (by decide +kernel) rfl (Nat.le_of_ble_eq_true rfl) fun hz0 => ?_
  refine r_ls [some (.ref x), some (.int (nI i))] rfl ?_
  refine r_aload_n (pc := 0) (i := 0) (tX10_degree.at 0 rfl) rfl rfl ?_
  refine r_iload_n (pc := 1) (i := 1) (tX10_degree.at 1 rfl) rfl rfl ?_
  refine r_callV (M' := mX10_requireVertex) (pc := 2) (tX10_degree.at 2 rfl) ml_X10_150 rfl mw_X10_requireVertex ⟨by decide, by decide⟩ (K.1.1) rfl rfl (c_reqV0 K.1.1 K.1.2.1 hi (by omega)) rfl rfl (Nat.le_of_ble_eq_true rfl) (Nat.le_of_ble_eq_true rfl) (Nat.le_of_ble_eq_true rfl) ?_
  rintro _ _ _ ⟨rfl, rfl, rfl⟩
  refine r_aload_n (pc := 5) (i := 0) (tX10_degree.at 3 rfl) rfl rfl ?_
  refine r_get (pc := 6) (tX10_degree.at 4 rfl) gf_X10_16 (K.1.1) rfl ?_
  refine r_iload_n (pc := 9) (i := 1) (tX10_degree.at 5 rfl) rfl rfl ?_
  refine r_callV (M' := mX3_sumOfWeights) (pc := 10) (tX10_degree.at 6 rfl) ml_X10_153 rfl mw_X3_sumOfWeights ⟨by decide, by decide⟩ (K.1.2.1.1) rfl rfl (c_sow K.1.2.1 h6 (by omega)) rfl rfl (Nat.le_of_ble_eq_true rfl) (Nat.le_of_ble_eq_true rfl) (Nat.le_of_ble_eq_true rfl) ?_
  rintro _ _ _ ⟨rfl, rfl, rfl⟩
  refine r_iret (pc := 13) (tX10_degree.at 7 rfl) rfl (Nat.le_of_ble_eq_true rfl) (Nat.le_of_ble_eq_true rfl) ?_
  exact ⟨rfl, rfl, K, frX.rfl⟩
theorem c_hitT {i j p : Nat} (K : okX v h x Z) (z : okZ Z) (hi : i < Z.2.1.n) (hj : j < Z.2.1.n) (hpp : p ≤ 1) (hw : (rch Z.2.1.W Z.2.1.n i).testBit j = true) (m1 : okM Z.2.1.W Z.2.1.n i j (stG Z.2.1.W Z.2.1.n)) : Cal v mX10_hittingTime 7 0 0 [.ref x, .int (nI i), .int (nI j), .int (nI p)] h top (pM v h top x Z (some (.long (lI (fp p (muA Z.2.1.W Z.2.1.n i j (stG Z.2.1.W Z.2.1.n)) (muB Z.2.1.W Z.2.1.n i j (stG Z.2.1.W Z.2.1.n))))))) noX := by
  have okg := z.1
  have h6 := okg.1
  refine Cal.ofJ (by decide +kernel) rfl (Nat.le_of_ble_eq_true rfl) fun hz0 => ?_
  refine r_ls [some (.ref x), some (.int (nI i)), some (.int (nI j)), some (.int (nI p))] rfl ?_
  refine r_aload_n (pc := 0) (i := 0) (tX10_hittingTime.at 0 rfl) rfl rfl ?_
  refine r_iload_n (pc := 1) (i := 1) (tX10_hittingTime.at 1 rfl) rfl rfl ?_
  refine r_callV (M' := mX10_requireVertex) (pc := 2) (tX10_hittingTime.at 2 rfl) ml_X10_150 rfl mw_X10_requireVertex ⟨by decide, by decide⟩ (K.1.1) rfl rfl (c_reqV0 K.1.1 K.1.2.1 hi (by omega)) rfl rfl (Nat.le_of_ble_eq_true rfl) (Nat.le_of_ble_eq_true rfl) (Nat.le_of_ble_eq_true rfl) ?_
  rintro _ _ _ ⟨rfl, rfl, rfl⟩
  refine r_aload_n (pc := 5) (i := 0) (tX10_hittingTime.at 3 rfl) rfl rfl ?_
  refine r_iload_n (pc := 6) (i := 2) (tX10_hittingTime.at 4 rfl) rfl rfl ?_
  refine r_callV (M' := mX10_requireVertex) (pc := 7) (tX10_hittingTime.at 5 rfl) ml_X10_150 rfl mw_X10_requireVertex ⟨by decide, by decide⟩ (K.1.1) rfl rfl (c_reqV0 K.1.1 K.1.2.1 hj (by omega)) rfl rfl (Nat.le_of_ble_eq_true rfl) (Nat.le_of_ble_eq_true rfl) (Nat.le_of_ble_eq_true rfl) ?_
  rintro _ _ _ ⟨rfl, rfl, rfl⟩
  refine r_aload_n (pc := 10) (i := 0) (tX10_hittingTime.at 6 rfl) rfl rfl ?_
  refine r_iload_n (pc := 11) (i := 1) (tX10_hittingTime.at 7 rfl) rfl rfl ?_
  refine r_iload_n (pc := 12) (i := 2) (tX10_hittingTime.at 8 rfl) rfl rfl ?_
  refine r_callV (M' := mX10_requireWay) (pc := 13) (tX10_hittingTime.at 9 rfl) ml_X10_168 rfl mw_X10_requireWay ⟨by decide, by decide⟩ (K.1.1) rfl rfl (c_reqWay0 K.1.1 K.1.2.1 okg hi (by omega) hw) rfl rfl (Nat.le_of_ble_eq_true rfl) (Nat.le_of_ble_eq_true rfl) (Nat.le_of_ble_eq_true rfl) ?_
  rintro _ _ _ ⟨rfl, rfl, rfl⟩
  refine r_aload_n (pc := 16) (i := 0) (tX10_hittingTime.at 10 rfl) rfl rfl ?_
  refine r_callV (M' := mX10_gainSteps) (pc := 17) (tX10_hittingTime.at 11 rfl) ml_X10_172 rfl mw_X10_gainSteps ⟨by decide, by decide⟩ (K.1.1) rfl rfl (c_gainS K okg) rfl rfl (Nat.le_of_ble_eq_true rfl) (Nat.le_of_ble_eq_true rfl) (Nat.le_of_ble_eq_true rfl) ?_
  rintro _ H1 _ ⟨rfl, rfl, K1, ⟨g, hN, hgk⟩, f1⟩
  obtain ⟨C, U, k, hE1⟩ := K1.2.1.2.2.1
  refine r_aload_n (pc := 20) (i := 0) (tX10_hittingTime.at 12 rfl) rfl rfl ?_
  refine r_get (pc := 21) (tX10_hittingTime.at 13 rfl) gf_X10_51 (K1.1.1) rfl ?_
  refine r_aload_n (pc := 24) (i := 0) (tX10_hittingTime.at 14 rfl) rfl rfl ?_
  refine r_get (pc := 25) (tX10_hittingTime.at 15 rfl) gf_X10_16 (K1.1.1) rfl ?_
  refine r_iload_n (pc := 28) (i := 1) (tX10_hittingTime.at 16 rfl) rfl rfl ?_
  refine r_iload_n (pc := 29) (i := 2) (tX10_hittingTime.at 17 rfl) rfl rfl ?_
  refine r_aload_n (pc := 30) (i := 0) (tX10_hittingTime.at 18 rfl) rfl rfl ?_
  refine r_get (pc := 31) (tX10_hittingTime.at 19 rfl) gf_X10_65 (K1.1.1) rfl ?_
  refine r_aload_n (pc := 34) (i := 0) (tX10_hittingTime.at 20 rfl) rfl rfl ?_
  refine r_get (pc := 35) (tX10_hittingTime.at 21 rfl) gf_X10_58 (K1.1.1) rfl ?_
  refine r_callV (M' := mX1_meanUntil) (pc := 38) (tX10_hittingTime.at 22 rfl) ml_X10_175 rfl mw_X1_meanUntil ⟨by decide, by decide⟩ (hE1.1) rfl rfl (c_meanX K1 okg hi hj hN hgk m1 (Or.inl rfl)) rfl rfl (Nat.le_of_ble_eq_true rfl) (Nat.le_of_ble_eq_true rfl) (Nat.le_of_ble_eq_true rfl) ?_
  rintro _ H2 _ ⟨rfl, rfl, K2, hA2, f2⟩
  refine r_aload_n (pc := 41) (i := 0) (tX10_hittingTime.at 23 rfl) rfl rfl ?_
  refine r_get (pc := 42) (tX10_hittingTime.at 24 rfl) gf_X10_58 (K2.1.1) rfl ?_
  refine r_iload_n (pc := 45) (i := 3) (tX10_hittingTime.at 25 rfl) rfl rfl ?_
  refine r_callV (M' := mX2_part) (pc := 46) (tX10_hittingTime.at 26 rfl) ml_X10_164 rfl mw_X2_part ⟨by decide, by decide⟩ (hA2) rfl rfl (c_frPart hA2 (by omega)) rfl rfl (Nat.le_of_ble_eq_true rfl) (Nat.le_of_ble_eq_true rfl) (Nat.le_of_ble_eq_true rfl) ?_
  rintro _ _ _ ⟨rfl, rfl, rfl⟩
  refine r_lret (pc := 49) (tX10_hittingTime.at 27 rfl) rfl (Nat.le_of_ble_eq_true rfl) (Nat.le_of_ble_eq_true rfl) ?_
  exact ⟨rfl, rfl, K2, fun a ha => (f2 a (by omega) (by omega)).trans (f1 a (by omega))⟩
theorem c_hitC {i j p cn : Nat} {cc : Nat → Int} (K : okX v h x Z) (z : okZ Z) (hl : okL Z.2.1) (hc : okC v h x Z.2.1 cn cc) (hi : i < Z.2.1.n) (hj : j < Z.2.1.n) (hpp : p ≤ 1) (hw : (rch Z.2.1.W Z.2.1.n i).testBit j = true) (m1 : okM Z.2.1.W Z.2.1.n i j (csG Z.2.1.W (tbl Z.2.1 cn cc) Z.2.1.n)) : Cal v mX10_hittingCost 7 0 0 [.ref x, .int (nI i), .int (nI j), .int (nI p)] h top (pM v h top x Z (some (.long (lI (fp p (muA Z.2.1.W Z.2.1.n i j (csG Z.2.1.W (tbl Z.2.1 cn cc) Z.2.1.n)) (muB Z.2.1.W Z.2.1.n i j (csG Z.2.1.W (tbl Z.2.1 cn cc) Z.2.1.n))))))) noX := by
  have okg := z.1
  have h6 := okg.1
  refine Cal.ofJ (by decide +kernel) rfl (Nat.le_of_ble_eq_true rfl) fun hz0 => ?_
  refine r_ls [some (.ref x), some (.int (nI i)), some (.int (nI j)), some (.int (nI p))] rfl ?_
  refine r_aload_n (pc := 0) (i := 0) (tX10_hittingCost.at 0 rfl) rfl rfl ?_
  refine r_iload_n (pc := 1) (i := 1) (tX10_hittingCost.at 1 rfl) rfl rfl ?_
  refine r_callV (M' := mX10_requireVertex) (pc := 2) (tX10_hittingCost.at 2 rfl) ml_X10_150 rfl mw_X10_requireVertex ⟨by decide, by decide⟩ (K.1.1) rfl rfl (c_reqV0 K.1.1 K.1.2.1 hi (by omega)) rfl rfl (Nat.le_of_ble_eq_true rfl) (Nat.le_of_ble_eq_true rfl) (Nat.le_of_ble_eq_true rfl) ?_
  rintro _ _ _ ⟨rfl, rfl, rfl⟩
  refine r_aload_n (pc := 5) (i := 0) (tX10_hittingCost.at 3 rfl) rfl rfl ?_
  refine r_iload_n (pc := 6) (i := 2) (tX10_hittingCost.at 4 rfl) rfl rfl ?_
  refine r_callV (M' := mX10_requireVertex) (pc := 7) (tX10_hittingCost.at 5 rfl) ml_X10_150 rfl mw_X10_requireVertex ⟨by decide, by decide⟩ (K.1.1) rfl rfl (c_reqV0 K.1.1 K.1.2.1 hj (by omega)) rfl rfl (Nat.le_of_ble_eq_true rfl) (Nat.le_of_ble_eq_true rfl) (Nat.le_of_ble_eq_true rfl) ?_
  rintro _ _ _ ⟨rfl, rfl, rfl⟩
  refine r_aload_n (pc := 10) (i := 0) (tX10_hittingCost.at 6 rfl) rfl rfl ?_
  refine r_iload_n (pc := 11) (i := 1) (tX10_hittingCost.at 7 rfl) rfl rfl ?_
  refine r_iload_n (pc := 12) (i := 2) (tX10_hittingCost.at 8 rfl) rfl rfl ?_
  refine r_callV (M' := mX10_requireWay) (pc := 13) (tX10_hittingCost.at 9 rfl) ml_X10_168 rfl mw_X10_requireWay ⟨by decide, by decide⟩ (K.1.1) rfl rfl (c_reqWay0 K.1.1 K.1.2.1 okg hi (by omega) hw) rfl rfl (Nat.le_of_ble_eq_true rfl) (Nat.le_of_ble_eq_true rfl) (Nat.le_of_ble_eq_true rfl) ?_
  rintro _ _ _ ⟨rfl, rfl, rfl⟩
  refine r_aload_n (pc := 16) (i := 0) (tX10_hittingCost.at 10 rfl) rfl rfl ?_
  refine r_callV (M' := mX10_gainCosts) (pc := 17) (tX10_hittingCost.at 11 rfl) ml_X10_179 rfl mw_X10_gainCosts ⟨by decide, by decide⟩ (K.1.1) rfl rfl (c_gainCX K okg hl hc) rfl rfl (Nat.le_of_ble_eq_true rfl) (Nat.le_of_ble_eq_true rfl) (Nat.le_of_ble_eq_true rfl) ?_
  rintro _ H1 _ ⟨rfl, rfl, K1, ⟨g, hN, hgk⟩, f1⟩
  obtain ⟨C, U, k, hE1⟩ := K1.2.1.2.2.1
  refine r_aload_n (pc := 20) (i := 0) (tX10_hittingCost.at 12 rfl) rfl rfl ?_
  refine r_get (pc := 21) (tX10_hittingCost.at 13 rfl) gf_X10_51 (K1.1.1) rfl ?_
  refine r_aload_n (pc := 24) (i := 0) (tX10_hittingCost.at 14 rfl) rfl rfl ?_
  refine r_get (pc := 25) (tX10_hittingCost.at 15 rfl) gf_X10_16 (K1.1.1) rfl ?_
  refine r_iload_n (pc := 28) (i := 1) (tX10_hittingCost.at 16 rfl) rfl rfl ?_
  refine r_iload_n (pc := 29) (i := 2) (tX10_hittingCost.at 17 rfl) rfl rfl ?_
  refine r_aload_n (pc := 30) (i := 0) (tX10_hittingCost.at 18 rfl) rfl rfl ?_
  refine r_get (pc := 31) (tX10_hittingCost.at 19 rfl) gf_X10_65 (K1.1.1) rfl ?_
  refine r_aload_n (pc := 34) (i := 0) (tX10_hittingCost.at 20 rfl) rfl rfl ?_
  refine r_get (pc := 35) (tX10_hittingCost.at 21 rfl) gf_X10_58 (K1.1.1) rfl ?_
  refine r_callV (M' := mX1_meanUntil) (pc := 38) (tX10_hittingCost.at 22 rfl) ml_X10_175 rfl mw_X1_meanUntil ⟨by decide, by decide⟩ (hE1.1) rfl rfl (c_meanX K1 okg hi hj hN hgk m1 (Or.inl rfl)) rfl rfl (Nat.le_of_ble_eq_true rfl) (Nat.le_of_ble_eq_true rfl) (Nat.le_of_ble_eq_true rfl) ?_
  rintro _ H2 _ ⟨rfl, rfl, K2, hA2, f2⟩
  refine r_aload_n (pc := 41) (i := 0) (tX10_hittingCost.at 23 rfl) rfl rfl ?_
  refine r_get (pc := 42) (tX10_hittingCost.at 24 rfl) gf_X10_58 (K2.1.1) rfl ?_
  refine r_iload_n (pc := 45) (i := 3) (tX10_hittingCost.at 25 rfl) rfl rfl ?_
  refine r_callV (M' := mX2_part) (pc := 46) (tX10_hittingCost.at 26 rfl) ml_X10_164 rfl mw_X2_part ⟨by decide, by decide⟩ (hA2) rfl rfl (c_frPart hA2 (by omega)) rfl rfl (Nat.le_of_ble_eq_true rfl) (Nat.le_of_ble_eq_true rfl) (Nat.le_of_ble_eq_true rfl) ?_
  rintro _ _ _ ⟨rfl, rfl, rfl⟩
  refine r_lret (pc := 49) (tX10_hittingCost.at 27 rfl) rfl (Nat.le_of_ble_eq_true rfl) (Nat.le_of_ble_eq_true rfl) ?_
  exact ⟨rfl, rfl, K2, fun a ha => (f2 a (by omega) (by omega)).trans (f1 a (by omega) (by omega) (by omega))⟩
/-- what is needed for a commute time -/
def okCm (W : Nat → Nat) (n i j : Nat) : Prop := okM W n i j (stG W n) ∧ okM W n j i (stG W n) ∧ (-9223372036854775807 ≤ cmN W n i j ∧ cmN W n i j ≤ 9223372036854775807) ∧ (0 < cmD W n i j ∧ cmD W n i j ≤ 9223372036854775807)
/-- the resistance, as it is put -/
def rsA (W : Nat → Nat) (n i j : Nat) : Int := if i = j then rdA (cmN W n i j) (cmD W n i j) else rdA (rdA (cmN W n i j) (cmD W n i j)) (rdB (cmN W n i j) (cmD W n i j) * (sdS W n (rch W n i) n : Nat))
def rsB (W : Nat → Nat) (n i j : Nat) : Int := if i = j then rdB (cmN W n i j) (cmD W n i j) else rdB (rdA (cmN W n i j) (cmD W n i j)) (rdB (cmN W n i j) (cmD W n i j) * (sdS W n (rch W n i) n : Nat))
def okRs (W : Nat → Nat) (n i j : Nat) : Prop := i ≠ j → (-9223372036854775807 ≤ rdA (cmN W n i j) (cmD W n i j) ∧ rdA (cmN W n i j) (cmD W n i j) ≤ 9223372036854775807) ∧ (0 < rdB (cmN W n i j) (cmD W n i j) * (sdS W n (rch W n i) n : Nat) ∧ rdB (cmN W n i j) (cmD W n i j) * (sdS W n (rch W n i) n : Nat) ≤ 9223372036854775807)
theorem c_treesQ (K : okX v h x Z) (z : okZ Z) (ok : 2 ≤ Z.2.1.n → okA (trM Z.2.1.W Z.2.1.n) (trK Z.2.1.n)) : Cal v mX10_trees 6 0 0 [.ref x] h top (pM v h top x Z (some (.long (lI (trC Z.2.1))))) noX := by
  refine Cal.ofJ (by decide +kernel) rfl (Nat.le_of_ble_eq_true rfl) fun hz0 => ?_
  refine r_ls [some (.ref x)] rfl ?_
  refine r_aload_n (pc := 0) (i := 0) (tX10_trees.at 0 rfl) rfl rfl ?_
  refine r_callV (M' := mX10_countTrees) (pc := 1) (tX10_trees.at 1 rfl) ml_X10_193 rfl mw_X10_countTrees ⟨by decide, by decide⟩ (K.1.1) rfl rfl (c_treesX K z.1 ok) rfl rfl (Nat.le_of_ble_eq_true rfl) (Nat.le_of_ble_eq_true rfl) (Nat.le_of_ble_eq_true rfl) ?_
  rintro _ H1 _ ⟨rfl, rfl, K1, f1⟩
  refine r_lret (pc := 4) (tX10_trees.at 2 rfl) rfl (Nat.le_of_ble_eq_true rfl) (Nat.le_of_ble_eq_true rfl) ?_
  exact ⟨rfl, rfl, K1, fun a ha => f1 a (by omega)⟩
/-- absorption: what is put -/
def abS (W : Nat → Nat) (n a i : Nat) : Nat := dif (rch W n i) a
def abM (W : Nat → Nat) (n a i : Nat) (g : Nat → Int) : Nat → Nat → Int := aug W n g (unkL (abS W n a i) i n)
def abK (W : Nat → Nat) (n a i : Nat) : Nat := (unkL (abS W n a i) i n).length
def atG (W : Nat → Nat) (j : Nat) : Nat → Int := fun k => (W (k * 6 + j) : Nat)
def aqA (W : Nat → Nat) (n a i j : Nat) : Int := if a.testBit i = true then rdA (if i = j then 1 else 0) 1 else slA (abM W n a i (atG W j)) (abK W n a i)
def aqB (W : Nat → Nat) (n a i j : Nat) : Int := if a.testBit i = true then rdB (if i = j then 1 else 0) 1 else slB (abM W n a i (atG W j)) (abK W n a i)
def atA (W : Nat → Nat) (n a i : Nat) : Int := if a.testBit i = true then rdA 0 1 else slA (abM W n a i (stG W n)) (abK W n a i)
def atB (W : Nat → Nat) (n a i : Nat) : Int := if a.testBit i = true then rdB 0 1 else slB (abM W n a i (stG W n)) (abK W n a i)
theorem c_fAbs {i j : Nat} (K : okX v h x Z) (okg : okG Z.2.1) (hi : i < Z.2.1.n) (hj : j < Z.2.1.n) (ok : Z.2.1.a.testBit i = false → okA (abM Z.2.1.W Z.2.1.n Z.2.1.a i (atG Z.2.1.W j)) (abK Z.2.1.W Z.2.1.n Z.2.1.a i)) :
    Cal v mX10_findAbsorption 5 0 0 [.ref x, .int (nI i), .int (nI j)] h top (fun r h' top' => r = none ∧ top = top' ∧ okX v h' x Z ∧ h' (x + 87) = some (frE (aqA Z.2.1.W Z.2.1.n Z.2.1.a i j) (aqB Z.2.1.W Z.2.1.n Z.2.1.a i j)) ∧ frX h h' x) noX := by
  have K' := K
  obtain ⟨⟨hx, hg, -, -⟩, ⟨-, -, ⟨C, U, k, hE⟩, ⟨a, b, hA⟩, -⟩, ⟨g, hN⟩, -⟩ := K'
  have h6 := okg.1
  have h1 : rch Z.2.1.W Z.2.1.n i < 64 := Nat.lt_of_lt_of_le (rch_lt hi) (p64 okg.1)
  unfold aqA aqB
  refine Cal.ofJ (by decide +kernel) rfl (Nat.le_of_ble_eq_true rfl) fun hz0 => ?_
  refine r_ls [some (.ref x), some (.int (nI i)), some (.int (nI j)), none] rfl ?_
  generalize hPo : (fun (r : Option Value) (h' : Hp) (top' : Nat) => r = none ∧ top = top' ∧ okX v h' x Z ∧ h' (x + 87) = some (frE (if Z.2.1.a.testBit i = true then rdA (if i = j then 1 else 0) 1 else slA (abM Z.2.1.W Z.2.1.n Z.2.1.a i (atG Z.2.1.W j)) (abK Z.2.1.W Z.2.1.n Z.2.1.a i)) (if Z.2.1.a.testBit i = true then rdB (if i = j then 1 else 0) 1 else slB (abM Z.2.1.W Z.2.1.n Z.2.1.a i (atG Z.2.1.W j)) (abK Z.2.1.W Z.2.1.n Z.2.1.a i))) ∧ frX h h' x) = Po
  refine r_aload_n (pc := 0) (i := 0) (tX10_findAbsorption.at 0 rfl) rfl rfl ?_
  refine r_get (pc := 1) (tX10_findAbsorption.at 1 rfl) gf_X10_16 (hx) rfl ?_
  refine r_iload_n (pc := 4) (i := 1) (tX10_findAbsorption.at 2 rfl) rfl rfl ?_
  refine r_callV (M' := mX3_isAbsorbing) (pc := 5) (tX10_findAbsorption.at 3 rfl) ml_X10_200 rfl mw_X3_isAbsorbing ⟨by decide, by decide⟩ (hg.1) rfl rfl (c_isAbs hg okg.2.2.1 (y := i) (by omega)) rfl rfl (Nat.le_of_ble_eq_true rfl) (Nat.le_of_ble_eq_true rfl) (Nat.le_of_ble_eq_true rfl) ?_
  rintro _ _ _ ⟨rfl, rfl, rfl⟩
  by_cases c : Z.2.1.a.testBit i = true
  · rw [if_pos c, if_pos c] at hPo
    rw [c]
    refine r_if_eqN (pc := 8) 30 (tX10_findAbsorption.at 4 rfl) (by decide) (by decide) (fun z => absurd z (by decide)) (fun _ => ?_)
    refine r_aload_n (pc := 11) (i := 0) (tX10_findAbsorption.at 5 rfl) rfl rfl ?_
    refine r_get (pc := 12) (tX10_findAbsorption.at 6 rfl) gf_X10_58 (hx) rfl ?_
    refine r_iload_n (pc := 15) (i := 1) (tX10_findAbsorption.at 7 rfl) rfl rfl ?_
    refine r_iload_n (pc := 16) (i := 2) (tX10_findAbsorption.at 8 rfl) rfl rfl ?_
    refine r_icmp_neN (pc := 17) 24 (tX10_findAbsorption.at 9 rfl) (by decide) (by omega) (by omega) (fun c2 => ?_) (fun c2 => ?_)
    · rw [if_neg c2] at hPo
      refine r_lconst (pc := 24) (w := lI 0) (tX10_findAbsorption.at 12 rfl) (by decide) ?_
      refine r_lconst (pc := 25) (w := lI 1) (tX10_findAbsorption.at 13 rfl) (by decide) ?_
      refine r_callV (M' := mX2_put) (pc := 26) (tX10_findAbsorption.at 14 rfl) ml_X10_212 rfl mw_X2_put ⟨by decide, by decide⟩ (hA) rfl rfl (c_frPut (n := 0) (d := 1) hA (by omega) (by omega)) rfl rfl (Nat.le_of_ble_eq_true rfl) (Nat.le_of_ble_eq_true rfl) (Nat.le_of_ble_eq_true rfl) ?_
      rintro _ _ _ ⟨rfl, rfl, rfl⟩
      refine r_vret (pc := 29) (tX10_findAbsorption.at 15 rfl) rfl (Nat.le_of_ble_eq_true rfl) (Nat.le_of_ble_eq_true rfl) ?_
      subst hPo
      exact ⟨rfl, rfl, K.uA ⟨_, _, hp_eq _ _ _⟩ (fun a ha => hp_ne _ _ (by omega)), hp_eq _ _ _, fun a ha => hp_ne _ _ (by omega)⟩
    · rw [if_pos c2] at hPo
      refine r_lconst (pc := 20) (w := lI 1) (tX10_findAbsorption.at 10 rfl) (by decide) ?_
      refine r_goto (pc := 21) 25 (tX10_findAbsorption.at 11 rfl) (by decide) ?_
      refine r_lconst (pc := 25) (w := lI 1) (tX10_findAbsorption.at 13 rfl) (by decide) ?_
      refine r_callV (M' := mX2_put) (pc := 26) (tX10_findAbsorption.at 14 rfl) ml_X10_212 rfl mw_X2_put ⟨by decide, by decide⟩ (hA) rfl rfl (c_frPut (n := 1) (d := 1) hA (by omega) (by omega)) rfl rfl (Nat.le_of_ble_eq_true rfl) (Nat.le_of_ble_eq_true rfl) (Nat.le_of_ble_eq_true rfl) ?_
      rintro _ _ _ ⟨rfl, rfl, rfl⟩
      refine r_vret (pc := 29) (tX10_findAbsorption.at 15 rfl) rfl (Nat.le_of_ble_eq_true rfl) (Nat.le_of_ble_eq_true rfl) ?_
      subst hPo
      exact ⟨rfl, rfl, K.uA ⟨_, _, hp_eq _ _ _⟩ (fun a ha => hp_ne _ _ (by omega)), hp_eq _ _ _, fun a ha => hp_ne _ _ (by omega)⟩
  have c' : Z.2.1.a.testBit i = false := by simpa using c
  rw [if_neg c, if_neg c] at hPo
  rw [c']
  refine r_if_eqN (pc := 8) 30 (tX10_findAbsorption.at 4 rfl) (by decide) (by decide) (fun _ => ?_) (fun z => absurd rfl z)
  have gx : ∀ e, hp h (x + 89) e x = some (xE x Z.1.1) := fun e => (hp_ne _ _ (by omega)).trans hx
  have gG : ∀ e, isG v (hp h (x + 89) e) (x + 1) Z.2.1 := fun e => hg.put (by omega)
  refine r_eq (h2 := hp h (x + 89) (aJ v 6 (lF g))) (hp_id hN).symm rfl ?_
  refine r_iconst (pc := 30) (w := nI 0) (tX10_findAbsorption.at 16 rfl) (by decide) ?_
  refine r_istore_n (pc := 31) (i := 3) (tX10_findAbsorption.at 17 rfl) rfl (by decide) ?_
  have key : ∀ m u (g : Nat → Int), u + m = Z.2.1.n → (∀ k, k < u → g k = atG Z.2.1.W j k) → J v mX10_findAbsorption (rmOf 5 0 0) (KM v Po noX 0 0) top 0 0 (hp h (x + 89) (aJ v 6 (lF g))) top 32 [some (.ref x), some (.int (nI i)), some (.int (nI j)), some (.int (nI u))] [] := by
    intro m
    induction m with
    | zero =>
      intro u g hu hgk
      have hu : u = Z.2.1.n := by omega
      subst hu
      have K1 : okX v (hp h (x + 89) (aJ v 6 (lF g))) x Z := K.uN ⟨_, hp_eq _ _ _⟩ (fun a ha => hp_ne _ _ (by omega))
      obtain ⟨C1, U1, k1, hE1⟩ := K1.2.1.2.2.1
      refine r_iload_n (pc := 32) (i := 3) (tX10_findAbsorption.at 18 rfl) rfl rfl ?_
      refine r_aload_n (pc := 33) (i := 0) (tX10_findAbsorption.at 19 rfl) rfl rfl ?_
      refine r_get (pc := 34) (tX10_findAbsorption.at 20 rfl) gf_X10_16 (gx _) rfl ?_
      refine r_get (pc := 37) (tX10_findAbsorption.at 21 rfl) gf_X10_127 ((gG _).1) rfl ?_
      refine r_icmp_geN (pc := 40) 65 (tX10_findAbsorption.at 22 rfl) (by decide) (by omega) (by omega) (fun _ => ?_) (fun c => by omega)
      refine r_aload_n (pc := 65) (i := 0) (tX10_findAbsorption.at 35 rfl) rfl rfl ?_
      refine r_get (pc := 66) (tX10_findAbsorption.at 36 rfl) gf_X10_51 (gx _) rfl ?_
      refine r_aload_n (pc := 69) (i := 0) (tX10_findAbsorption.at 37 rfl) rfl rfl ?_
      refine r_get (pc := 70) (tX10_findAbsorption.at 38 rfl) gf_X10_16 (gx _) rfl ?_
      refine r_aload_n (pc := 73) (i := 0) (tX10_findAbsorption.at 39 rfl) rfl rfl ?_
      refine r_get (pc := 74) (tX10_findAbsorption.at 40 rfl) gf_X10_16 (gx _) rfl ?_
      refine r_iload_n (pc := 77) (i := 1) (tX10_findAbsorption.at 41 rfl) rfl rfl ?_
      refine r_callV (M' := mX3_component) (pc := 78) (tX10_findAbsorption.at 42 rfl) ml_X10_157 rfl mw_X3_component ⟨by decide, by decide⟩ ((gG _).1) rfl rfl (c_comp (gG _) h6 hi okg.w) rfl rfl (Nat.le_of_ble_eq_true rfl) (Nat.le_of_ble_eq_true rfl) (Nat.le_of_ble_eq_true rfl) ?_
      rintro _ _ _ ⟨rfl, rfl, rfl⟩
      refine r_aload_n (pc := 81) (i := 0) (tX10_findAbsorption.at 43 rfl) rfl rfl ?_
      refine r_get (pc := 82) (tX10_findAbsorption.at 44 rfl) gf_X10_16 (gx _) rfl ?_
      refine r_get (pc := 85) (tX10_findAbsorption.at 45 rfl) gf_X10_197 ((gG _).1) rfl ?_
      refine r_iconst (pc := 88) (w := zI (-1)) (tX10_findAbsorption.at 46 rfl) (by decide) ?_
      refine r_ixor (pc := 89) (tX10_findAbsorption.at 47 rfl) ?_
      refine r_iand (pc := 90) (tX10_findAbsorption.at 48 rfl) ?_
      rw [bs_dif _ h1 _ okg.2.2.1]
      refine r_iload_n (pc := 91) (i := 1) (tX10_findAbsorption.at 49 rfl) rfl rfl ?_
      refine r_aload_n (pc := 92) (i := 0) (tX10_findAbsorption.at 50 rfl) rfl rfl ?_
      refine r_get (pc := 93) (tX10_findAbsorption.at 51 rfl) gf_X10_65 (gx _) rfl ?_
      refine r_aload_n (pc := 96) (i := 0) (tX10_findAbsorption.at 52 rfl) rfl rfl ?_
      refine r_get (pc := 97) (tX10_findAbsorption.at 53 rfl) gf_X10_58 (gx _) rfl ?_
      refine r_callV (M' := mX1_solve) (pc := 100) (tX10_findAbsorption.at 54 rfl) ml_X10_216 rfl mw_X1_solve ⟨by decide, by decide⟩ (hE1.1) rfl rfl (c_solveX K1 okg hi (dif_lt h1) (hp_eq _ _ _) hgk (ok c')) rfl rfl (Nat.le_of_ble_eq_true rfl) (Nat.le_of_ble_eq_true rfl) (Nat.le_of_ble_eq_true rfl) ?_
      rintro _ H2 _ ⟨rfl, rfl, K2, hA2, f2⟩
      refine r_vret (pc := 103) (tX10_findAbsorption.at 55 rfl) rfl (Nat.le_of_ble_eq_true rfl) (Nat.le_of_ble_eq_true rfl) ?_
      subst hPo
      exact ⟨rfl, rfl, K2, hA2, fun a ha => (f2 a (by omega)).trans (hp_ne _ _ (by omega))⟩
    | succ m ih =>
      intro u g hu hgk
      have hw := okg.2.2.2.2 (u * 6 + j) (by omega)
      refine r_iload_n (pc := 32) (i := 3) (tX10_findAbsorption.at 18 rfl) rfl rfl ?_
      refine r_aload_n (pc := 33) (i := 0) (tX10_findAbsorption.at 19 rfl) rfl rfl ?_
      refine r_get (pc := 34) (tX10_findAbsorption.at 20 rfl) gf_X10_16 (gx _) rfl ?_
      refine r_get (pc := 37) (tX10_findAbsorption.at 21 rfl) gf_X10_127 ((gG _).1) rfl ?_
      refine r_icmp_geN (pc := 40) 65 (tX10_findAbsorption.at 22 rfl) (by decide) (by omega) (by omega) (fun c => by omega) (fun _ => ?_)
      refine r_aload_n (pc := 43) (i := 0) (tX10_findAbsorption.at 23 rfl) rfl rfl ?_
      refine r_get (pc := 44) (tX10_findAbsorption.at 24 rfl) gf_X10_65 (gx _) rfl ?_
      refine r_iload_n (pc := 47) (i := 3) (tX10_findAbsorption.at 25 rfl) rfl rfl ?_
      refine r_aload_n (pc := 48) (i := 0) (tX10_findAbsorption.at 26 rfl) rfl rfl ?_
      refine r_get (pc := 49) (tX10_findAbsorption.at 27 rfl) gf_X10_16 (gx _) rfl ?_
      refine r_iload_n (pc := 52) (i := 3) (tX10_findAbsorption.at 28 rfl) rfl rfl ?_
      refine r_iload_n (pc := 53) (i := 2) (tX10_findAbsorption.at 29 rfl) rfl rfl ?_
      refine r_callV (M' := mX3_weightBetween) (pc := 54) (tX10_findAbsorption.at 30 rfl) ml_X10_142 rfl mw_X3_weightBetween ⟨by decide, by decide⟩ ((gG _).1) rfl rfl (c_wb (gG _) (a := u) (b := j) (by omega)) rfl rfl (Nat.le_of_ble_eq_true rfl) (Nat.le_of_ble_eq_true rfl) (Nat.le_of_ble_eq_true rfl) ?_
      rintro _ _ _ ⟨rfl, rfl, rfl⟩
      first | refine r_i2lN (pc := 57) (tX10_findAbsorption.at 31 rfl) (by omega) ?_ | refine r_i2lZ (pc := 57) (tX10_findAbsorption.at 31 rfl) ⟨by omega, by omega⟩ ?_ | refine r_i2l (pc := 57) (tX10_findAbsorption.at 31 rfl) ?_
      refine r_last (pc := 58) (tX10_findAbsorption.at 32 rfl) (hp_eq _ _ _) (u) (rfl) (by omega) (Nat.le_of_ble_eq_true rfl) ?_
      rw [upd_lF, hp_hp]
      first | refine r_iincN (pc := 59) (tX10_findAbsorption.at 33 rfl) rfl (by decide) ?_ | refine r_iinc (pc := 59) (tX10_findAbsorption.at 33 rfl) rfl rfl (by decide) ?_
      refine r_goto (pc := 62) 32 (tX10_findAbsorption.at 34 rfl) (by decide) ?_
      refine ih (u + 1) _ (by omega) (fun k hk => ?_)
      by_cases e : k = u
      · rw [e, upZ_eq]
        rfl
      · rw [upZ_ne _ _ e]
        exact hgk k (by omega)
  exact key Z.2.1.n 0 g (by omega) (fun k hk => by omega)
theorem c_absn {i j p : Nat} (K : okX v h x Z) (z : okZ Z) (hi : i < Z.2.1.n) (hj : j < Z.2.1.n) (hpp : p ≤ 1) (hat : Z.2.1.a.testBit j = true) (hw : rch Z.2.1.W Z.2.1.n i &&& Z.2.1.a ≠ 0) (ok : Z.2.1.a.testBit i = false → okA (abM Z.2.1.W Z.2.1.n Z.2.1.a i (atG Z.2.1.W j)) (abK Z.2.1.W Z.2.1.n Z.2.1.a i)) : Cal v mX10_absorption 7 0 0 [.ref x, .int (nI i), .int (nI j), .int (nI p)] h top (pM v h top x Z (some (.long (lI (fp p (aqA Z.2.1.W Z.2.1.n Z.2.1.a i j) (aqB Z.2.1.W Z.2.1.n Z.2.1.a i j)))))) noX := by
  have okg := z.1
  have h6 := okg.1
  refine Cal.ofJ (by decide +kernel) rfl (Nat.le_of_ble_eq_true rfl) fun hz0 => ?_
  refine r_ls [some (.ref x), some (.int (nI i)), some (.int (nI j)), some (.int (nI p))] rfl ?_
  refine r_aload_n (pc := 0) (i := 0) (tX10_absorption.at 0 rfl) rfl rfl ?_
  refine r_iload_n (pc := 1) (i := 1) (tX10_absorption.at 1 rfl) rfl rfl ?_
  refine r_callV (M' := mX10_requireVertex) (pc := 2) (tX10_absorption.at 2 rfl) ml_X10_150 rfl mw_X10_requireVertex ⟨by decide, by decide⟩ (K.1.1) rfl rfl (c_reqV0 K.1.1 K.1.2.1 hi (by omega)) rfl rfl (Nat.le_of_ble_eq_true rfl) (Nat.le_of_ble_eq_true rfl) (Nat.le_of_ble_eq_true rfl) ?_
  rintro _ _ _ ⟨rfl, rfl, rfl⟩
  refine r_aload_n (pc := 5) (i := 0) (tX10_absorption.at 3 rfl) rfl rfl ?_
  refine r_iload_n (pc := 6) (i := 2) (tX10_absorption.at 4 rfl) rfl rfl ?_
  refine r_callV (M' := mX10_requireVertex) (pc := 7) (tX10_absorption.at 5 rfl) ml_X10_150 rfl mw_X10_requireVertex ⟨by decide, by decide⟩ (K.1.1) rfl rfl (c_reqV0 K.1.1 K.1.2.1 hj (by omega)) rfl rfl (Nat.le_of_ble_eq_true rfl) (Nat.le_of_ble_eq_true rfl) (Nat.le_of_ble_eq_true rfl) ?_
  rintro _ _ _ ⟨rfl, rfl, rfl⟩
  refine r_aload_n (pc := 10) (i := 0) (tX10_absorption.at 6 rfl) rfl rfl ?_
  refine r_get (pc := 11) (tX10_absorption.at 7 rfl) gf_X10_16 (K.1.1) rfl ?_
  refine r_iload_n (pc := 14) (i := 2) (tX10_absorption.at 8 rfl) rfl rfl ?_
  refine r_callV (M' := mX3_isAbsorbing) (pc := 15) (tX10_absorption.at 9 rfl) ml_X10_200 rfl mw_X3_isAbsorbing ⟨by decide, by decide⟩ (K.1.2.1.1) rfl rfl (c_isAbs K.1.2.1 okg.2.2.1 (y := j) (by omega)) rfl rfl (Nat.le_of_ble_eq_true rfl) (Nat.le_of_ble_eq_true rfl) (Nat.le_of_ble_eq_true rfl) ?_
  rintro _ _ _ ⟨rfl, rfl, rfl⟩
  rw [hat]
  refine r_if_neN (pc := 18) 31 (tX10_absorption.at 10 rfl) (by decide) (by decide) (fun _ => ?_) (fun z => absurd z (by decide))
  refine r_aload_n (pc := 31) (i := 0) (tX10_absorption.at 16 rfl) rfl rfl ?_
  refine r_iload_n (pc := 32) (i := 1) (tX10_absorption.at 17 rfl) rfl rfl ?_
  refine r_callV (M' := mX10_requireAbsorbingWay) (pc := 33) (tX10_absorption.at 18 rfl) ml_X10_206 rfl mw_X10_requireAbsorbingWay ⟨by decide, by decide⟩ (K.1.1) rfl rfl (c_reqAb0 K.1.1 K.1.2.1 okg hi hw) rfl rfl (Nat.le_of_ble_eq_true rfl) (Nat.le_of_ble_eq_true rfl) (Nat.le_of_ble_eq_true rfl) ?_
  rintro _ _ _ ⟨rfl, rfl, rfl⟩
  refine r_aload_n (pc := 36) (i := 0) (tX10_absorption.at 19 rfl) rfl rfl ?_
  refine r_iload_n (pc := 37) (i := 1) (tX10_absorption.at 20 rfl) rfl rfl ?_
  refine r_iload_n (pc := 38) (i := 2) (tX10_absorption.at 21 rfl) rfl rfl ?_
  refine r_callV (M' := mX10_findAbsorption) (pc := 39) (tX10_absorption.at 22 rfl) ml_X10_209 rfl mw_X10_findAbsorption ⟨by decide, by decide⟩ (K.1.1) rfl rfl (c_fAbs K okg hi hj ok) rfl rfl (Nat.le_of_ble_eq_true rfl) (Nat.le_of_ble_eq_true rfl) (Nat.le_of_ble_eq_true rfl) ?_
  rintro _ H1 _ ⟨rfl, rfl, K1, hA1, f1⟩
  refine r_aload_n (pc := 42) (i := 0) (tX10_absorption.at 23 rfl) rfl rfl ?_
  refine r_get (pc := 43) (tX10_absorption.at 24 rfl) gf_X10_58 (K1.1.1) rfl ?_
  refine r_iload_n (pc := 46) (i := 3) (tX10_absorption.at 25 rfl) rfl rfl ?_
  refine r_callV (M' := mX2_part) (pc := 47) (tX10_absorption.at 26 rfl) ml_X10_164 rfl mw_X2_part ⟨by decide, by decide⟩ (hA1) rfl rfl (c_frPart hA1 (by omega)) rfl rfl (Nat.le_of_ble_eq_true rfl) (Nat.le_of_ble_eq_true rfl) (Nat.le_of_ble_eq_true rfl) ?_
  rintro _ _ _ ⟨rfl, rfl, rfl⟩
  refine r_lret (pc := 50) (tX10_absorption.at 27 rfl) rfl (Nat.le_of_ble_eq_true rfl) (Nat.le_of_ble_eq_true rfl) ?_
  exact ⟨rfl, rfl, K1, f1⟩
theorem c_afterQ {i j k : Nat} (K : okX v h x Z) (z : okZ Z) (hi : i < Z.2.1.n) (hj : j < Z.2.1.n) (hk : k ≤ 100) : Cal v mX10_after 7 0 0 [.ref x, .int (nI i), .int (nI j), .int (nI k)] h top (pM v h top x Z (some (.float (flN Z.2.1.W Z.2.1.n i k j)))) noX := by
  have okg := z.1
  have h6 := okg.1
  obtain ⟨T, nw, nx, a, b, hF⟩ := K.2.2.2.2
  have ca := c_after (v := v) (h := h) (top := top) (q := x + 91) (g := x + 1) (x := i) (y := j) (k := k) (T := T) (nw := nw) (nx := nx) (a := a) (b := b) K.1.2.1 (by omega) h6 okg.2.2.2.2 hi hj (by omega)
  rw [hF.self] at ca
  refine Cal.ofJ (by decide +kernel) rfl (Nat.le_of_ble_eq_true rfl) fun hz0 => ?_
  refine r_ls [some (.ref x), some (.int (nI i)), some (.int (nI j)), some (.int (nI k))] rfl ?_
  refine r_aload_n (pc := 0) (i := 0) (tX10_after.at 0 rfl) rfl rfl ?_
  refine r_iload_n (pc := 1) (i := 1) (tX10_after.at 1 rfl) rfl rfl ?_
  refine r_callV (M' := mX10_requireVertex) (pc := 2) (tX10_after.at 2 rfl) ml_X10_150 rfl mw_X10_requireVertex ⟨by decide, by decide⟩ (K.1.1) rfl rfl (c_reqV0 K.1.1 K.1.2.1 hi (by omega)) rfl rfl (Nat.le_of_ble_eq_true rfl) (Nat.le_of_ble_eq_true rfl) (Nat.le_of_ble_eq_true rfl) ?_
  rintro _ _ _ ⟨rfl, rfl, rfl⟩
  refine r_aload_n (pc := 5) (i := 0) (tX10_after.at 3 rfl) rfl rfl ?_
  refine r_iload_n (pc := 6) (i := 2) (tX10_after.at 4 rfl) rfl rfl ?_
  refine r_callV (M' := mX10_requireVertex) (pc := 7) (tX10_after.at 5 rfl) ml_X10_150 rfl mw_X10_requireVertex ⟨by decide, by decide⟩ (K.1.1) rfl rfl (c_reqV0 K.1.1 K.1.2.1 hj (by omega)) rfl rfl (Nat.le_of_ble_eq_true rfl) (Nat.le_of_ble_eq_true rfl) (Nat.le_of_ble_eq_true rfl) ?_
  rintro _ _ _ ⟨rfl, rfl, rfl⟩
  refine r_iload_n (pc := 10) (i := 3) (tX10_after.at 6 rfl) rfl rfl ?_
  refine r_if_ltN (pc := 11) 20 (tX10_after.at 7 rfl) (by decide) (by omega) ?_
  refine r_iload_n (pc := 14) (i := 3) (tX10_after.at 8 rfl) rfl rfl ?_
  refine r_bipush (pc := 15) (w := nI 100) (tX10_after.at 9 rfl) (by decide) ?_
  refine r_icmp_leN (pc := 17) 31 (tX10_after.at 10 rfl) (by decide) (by omega) (by omega) (fun _ => ?_) (fun c => by omega)
  refine r_aload_n (pc := 31) (i := 0) (tX10_after.at 16 rfl) rfl rfl ?_
  refine r_get (pc := 32) (tX10_after.at 17 rfl) gf_X10_79 (K.1.1) rfl ?_
  refine r_aload_n (pc := 35) (i := 0) (tX10_after.at 18 rfl) rfl rfl ?_
  refine r_get (pc := 36) (tX10_after.at 19 rfl) gf_X10_16 (K.1.1) rfl ?_
  refine r_iload_n (pc := 39) (i := 1) (tX10_after.at 20 rfl) rfl rfl ?_
  refine r_iload_n (pc := 40) (i := 2) (tX10_after.at 21 rfl) rfl rfl ?_
  refine r_iload_n (pc := 41) (i := 3) (tX10_after.at 22 rfl) rfl rfl ?_
  refine r_callV (M' := mX7_chanceAfter) (pc := 42) (tX10_after.at 23 rfl) ml_X10_258 rfl mw_X7_chanceAfter ⟨by decide, by decide⟩ (hF.1) rfl rfl (ca) rfl rfl (Nat.le_of_ble_eq_true rfl) (Nat.le_of_ble_eq_true rfl) (Nat.le_of_ble_eq_true rfl) ?_
  rintro _ _ _ ⟨rfl, rfl, T', nw', nx', a', b', rfl⟩
  refine r_fret (pc := 45) (tX10_after.at 24 rfl) rfl (Nat.le_of_ble_eq_true rfl) (Nat.le_of_ble_eq_true rfl) ?_
  exact ⟨rfl, rfl, K.uF ⟨_, _, _, _, _, spH_is⟩ (fun a ha => spH_out ha), fun a ha => spH_out (by omega)⟩
theorem c_walkQ {i k s w cn : Nat} {cc : Nat → Int} (K : okX v h x Z) (z : okZ Z) (hl : okL Z.2.1) (hc : okC v h x Z.2.1 cn cc) (hi : i < Z.2.1.n) (hk : k ≤ 1000) (hs : s < 2147483648) (hw : w ≤ 3) : Cal v mX10_walk 7 0 0 [.ref x, .int (nI i), .int (nI k), .int (nI s), .int (nI w)] h top (pM v h top x Z (some (.int (zI (tdV (wkS Z.2.1.W Z.2.1.n Z.2.1.a (tbl Z.2.1 cn cc) i s k) w))))) noX := by
  have okg := z.1
  have h6 := okg.1
  obtain ⟨s0, T0, hC, -, -⟩ := K.2.1.1
  refine Cal.ofJ (by decide +kernel) rfl (Nat.le_of_ble_eq_true rfl) fun hz0 => ?_
  refine r_ls [some (.ref x), some (.int (nI i)), some (.int (nI k)), some (.int (nI s)), some (.int (nI w))] rfl ?_
  refine r_aload_n (pc := 0) (i := 0) (tX10_walk.at 0 rfl) rfl rfl ?_
  refine r_iload_n (pc := 1) (i := 1) (tX10_walk.at 1 rfl) rfl rfl ?_
  refine r_callV (M' := mX10_requireVertex) (pc := 2) (tX10_walk.at 2 rfl) ml_X10_150 rfl mw_X10_requireVertex ⟨by decide, by decide⟩ (K.1.1) rfl rfl (c_reqV0 K.1.1 K.1.2.1 hi (by omega)) rfl rfl (Nat.le_of_ble_eq_true rfl) (Nat.le_of_ble_eq_true rfl) (Nat.le_of_ble_eq_true rfl) ?_
  rintro _ _ _ ⟨rfl, rfl, rfl⟩
  refine r_iload_n (pc := 5) (i := 2) (tX10_walk.at 3 rfl) rfl rfl ?_
  refine r_if_ltN (pc := 6) 16 (tX10_walk.at 4 rfl) (by decide) (by omega) ?_
  refine r_iload_n (pc := 9) (i := 2) (tX10_walk.at 5 rfl) rfl rfl ?_
  refine r_sipush (pc := 10) (w := nI 1000) (tX10_walk.at 6 rfl) (by decide) ?_
  refine r_icmp_leN (pc := 13) 27 (tX10_walk.at 7 rfl) (by decide) (by omega) (by omega) (fun _ => ?_) (fun c => by omega)
  refine r_iload_n (pc := 27) (i := 3) (tX10_walk.at 13 rfl) rfl rfl ?_
  refine r_if_geN (pc := 28) 42 (tX10_walk.at 14 rfl) (by decide) (by omega) ?_
  refine r_iload (pc := 42) (i := 4) (tX10_walk.at 20 rfl) rfl ?_
  refine r_if_ltN (pc := 44) 53 (tX10_walk.at 21 rfl) (by decide) (by omega) ?_
  refine r_iload (pc := 47) (i := 4) (tX10_walk.at 22 rfl) rfl ?_
  refine r_iconst (pc := 49) (w := nI 3) (tX10_walk.at 23 rfl) (by decide) ?_
  refine r_icmp_leN (pc := 50) 64 (tX10_walk.at 24 rfl) (by decide) (by omega) (by omega) (fun _ => ?_) (fun c => by omega)
  refine r_aload_n (pc := 64) (i := 0) (tX10_walk.at 30 rfl) rfl rfl ?_
  refine r_get (pc := 65) (tX10_walk.at 31 rfl) gf_X10_37 (K.1.1) rfl ?_
  refine r_aload_n (pc := 68) (i := 0) (tX10_walk.at 32 rfl) rfl rfl ?_
  refine r_get (pc := 69) (tX10_walk.at 33 rfl) gf_X10_16 (K.1.1) rfl ?_
  refine r_callV (M' := mX0_fillTable) (pc := 72) (tX10_walk.at 34 rfl) ml_X10_268 rfl mw_X0_fillTable ⟨by decide, by decide⟩ (hC.1) rfl rfl (c_fillTX K okg hl hc) rfl rfl (Nat.le_of_ble_eq_true rfl) (Nat.le_of_ble_eq_true rfl) (Nat.le_of_ble_eq_true rfl) ?_
  rintro _ H1 _ ⟨rfl, rfl, K1, ⟨T, hT, hTt⟩, f1⟩
  obtain ⟨s1, T1, hC1, -, -⟩ := K1.2.1.1
  obtain ⟨e1, hS1, hSe⟩ := K1.2.2.2.1
  have eT : wkS Z.2.1.W Z.2.1.n Z.2.1.a T i s k = wkS Z.2.1.W Z.2.1.n Z.2.1.a (tbl Z.2.1 cn cc) i s k := by
    have key : ∀ u, wkS Z.2.1.W Z.2.1.n Z.2.1.a T i s u = wkS Z.2.1.W Z.2.1.n Z.2.1.a (tbl Z.2.1 cn cc) i s u := by
      intro u
      induction u with
      | zero => rfl
      | succ u ih =>
        obtain ⟨b1, b2, -⟩ := wkS_b (W := Z.2.1.W) (ab := Z.2.1.a) (T := tbl Z.2.1 cn cc) h6 hi hs u
        obtain ⟨d1, d2⟩ := drS_lt (W := Z.2.1.W) b1 b2
        rw [wkS, wkS, ih]
        unfold wkN
        simp only
        rw [hTt _ (by omega)]
    exact key k
  have cg := c_go (v := v) (h := H1) (top := top) (q := x + 90) (g := x + 1) (cq := x + 71) (x := i) (n := k) (seed := s) (T := T) hSe K1.1.2.1 (by omega) hC1.1 hT (by omega) h6 okg.2.2.2.2 okg.2.2.1 hi hs hk
  rw [hp_id hS1, eT] at cg
  obtain ⟨dr, pl, sn, ct, su, rfl⟩ := hSe
  refine r_aload_n (pc := 75) (i := 0) (tX10_walk.at 35 rfl) rfl rfl ?_
  refine r_get (pc := 76) (tX10_walk.at 36 rfl) gf_X10_72 (K1.1.1) rfl ?_
  refine r_aload_n (pc := 79) (i := 0) (tX10_walk.at 37 rfl) rfl rfl ?_
  refine r_get (pc := 80) (tX10_walk.at 38 rfl) gf_X10_16 (K1.1.1) rfl ?_
  refine r_aload_n (pc := 83) (i := 0) (tX10_walk.at 39 rfl) rfl rfl ?_
  refine r_get (pc := 84) (tX10_walk.at 40 rfl) gf_X10_37 (K1.1.1) rfl ?_
  refine r_iload_n (pc := 87) (i := 1) (tX10_walk.at 41 rfl) rfl rfl ?_
  refine r_iload_n (pc := 88) (i := 2) (tX10_walk.at 42 rfl) rfl rfl ?_
  refine r_iload_n (pc := 89) (i := 3) (tX10_walk.at 43 rfl) rfl rfl ?_
  refine r_callV (M' := mX8_go) (pc := 90) (tX10_walk.at 44 rfl) ml_X10_271 rfl mw_X8_go ⟨by decide, by decide⟩ (hS1) rfl rfl (cg) rfl rfl (Nat.le_of_ble_eq_true rfl) (Nat.le_of_ble_eq_true rfl) (Nat.le_of_ble_eq_true rfl) ?_
  rintro _ _ _ ⟨rfl, rfl, rfl⟩
  have K2 : okX v (hp H1 (x + 90) (stK (wkS Z.2.1.W Z.2.1.n Z.2.1.a (tbl Z.2.1 cn cc) i s k))) x Z := K1.uS ⟨_, hp_eq _ _ _, _, _, _, _, _, rfl⟩ (fun a ha => hp_ne _ _ (by omega))
  refine r_aload_n (pc := 93) (i := 0) (tX10_walk.at 45 rfl) rfl rfl ?_
  refine r_get (pc := 94) (tX10_walk.at 46 rfl) gf_X10_72 (K2.1.1) rfl ?_
  refine r_iload (pc := 97) (i := 4) (tX10_walk.at 47 rfl) rfl ?_
  refine r_callV (M' := mX8_told) (pc := 99) (tX10_walk.at 48 rfl) ml_X10_275 rfl mw_X8_told ⟨by decide, by decide⟩ (hp_eq _ _ _) rfl rfl (c_told (hp_eq _ _ _) hw) rfl rfl (Nat.le_of_ble_eq_true rfl) (Nat.le_of_ble_eq_true rfl) (Nat.le_of_ble_eq_true rfl) ?_
  rintro _ _ _ ⟨rfl, rfl, rfl⟩
  refine r_iret (pc := 102) (tX10_walk.at 49 rfl) rfl (Nat.le_of_ble_eq_true rfl) (Nat.le_of_ble_eq_true rfl) ?_
  exact ⟨rfl, rfl, K2, fun a ha => (hp_ne _ _ (by omega)).trans (f1 a (by omega) (by omega))⟩
end

