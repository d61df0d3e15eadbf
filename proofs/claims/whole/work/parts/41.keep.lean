/-! ===== the component's changes ===== -/
def CS.keep (Z : CS) : CS := (Z.1, Z.2.1, (Z.2.2.1 + 1) % 8, min (Z.2.2.2.1 + 1) 8, fun k => if k = Z.2.2.1 then (Z.2.2.2.2 Z.2.2.1).cop Z.2.1 else Z.2.2.2.2 k)
def CS.sG (Z : CS) (G : GT) : CS := (Z.1, G, Z.2.2)
def okZ (Z : CS) : Prop := okG Z.2.1 ∧ Z.2.1.b ≤ 6 ∧ Z.2.2.1 < 8 ∧ Z.2.2.2.1 ≤ 8 ∧ Z.1.2.2 ≤ 600
section
variable {v : Ev} {h : Hp} {top x : Nat} {Z : CS}
/-- a change leaves the cells outside alone -/
def frX (h h' : Hp) (x : Nat) : Prop := ∀ a, (a < x ∨ x + 96 ≤ a) → h' a = h a
theorem c_keepX (K : okX v h x Z) (z : okZ Z) : Cal v mX4_keep 3 0 0 [.ref (x + 7), .ref (x + 1)] h top (fun r h' top' => r = none ∧ top = top' ∧ okX v h' x Z.keep ∧ frX h h' x) noX := by
  obtain ⟨-, -, hp8, hc8, -⟩ := z
  have hH := K.1.2.2.1
  refine (c_keep (top := top) hH hp8 hc8 K.1.2.1 (by omega)).mono (fun r h' top' => ?_)
  rintro ⟨rfl, rfl, rfl⟩
  have hk : kA (x + 7) Z.2.2.1 = x + 9 + 6 * Z.2.2.1 := by unfold kA; omega
  have fo : ∀ a, (a < x + 7 ∨ x + 7 + 50 ≤ a) → hp (gH v h (kA (x + 7) Z.2.2.1) ((Z.2.2.2.2 Z.2.2.1).cop Z.2.1)) (x + 7) (hE (x + 7) ((Z.2.2.1 + 1) % 8) (min (Z.2.2.2.1 + 1) 8)) a = h a := fun a ha => by
    rw [hp_ne _ _ (by omega), gH_out _ _ _ _ (by omega)]
  refine ⟨rfl, rfl, K.uH ⟨hp_eq _ _ _, ?_, fun i hi => ?_⟩ fo, fun a ha => fo a (by omega)⟩
  · rw [hp_ne _ _ (by omega), gH_out _ _ _ _ (by omega)]
    exact hH.2.1
  · show isG v _ (kA (x + 7) i) (if i = Z.2.2.1 then (Z.2.2.2.2 Z.2.2.1).cop Z.2.1 else Z.2.2.2.2 i)
    by_cases e : i = Z.2.2.1
    · rw [if_pos e, e]
      exact (gH_is _ _ _ _).put (by omega)
    · rw [if_neg e]
      exact (hH.2.2 i hi).frame (fun a h1 h2 => by
        unfold kA at h1 h2
        rw [hp_ne _ _ (by omega), gH_out _ _ _ _ (by omega)])
theorem okX.sG (K : okX v h x Z) (G : GT) : okX v (gH v h (x + 1) G) x (Z.sG G) := K.uG (gH_is _ _ _ _) (fun a ha => gH_out _ _ _ _ ha)
theorem frX.gH {h0 : Hp} {G : GT} (f : frX h0 h x) : frX h0 (gH v h (x + 1) G) x := fun a ha => (gH_out _ _ _ _ (by omega)).trans (f a ha)
def pM (v : Ev) (h : Hp) (top x : Nat) (Z : CS) (r0 : Option Value) : Option Value → Hp → Nat → Prop := fun r h' top' => r = r0 ∧ top = top' ∧ okX v h' x Z ∧ frX h h' x
theorem c_setWeight {i w : Nat} (K : okX v h x Z) (z : okZ Z) (hl : okL Z.2.1) (hi : i < Z.2.1.e) (hw : 1 ≤ w ∧ w ≤ 9) : Cal v mX10_setWeight 8 0 0 [.ref x, .int (nI i), .int (nI w)] h top (pM v h top x (Z.keep.sG (Z.2.1.sW (pWt Z.2.1.W (Z.2.1.L i) (Z.2.1.H i) w))) (some (.int (nI (Z.2.1.W (Z.2.1.L i * 6 + Z.2.1.H i)))))) noX := by
  have okg := z.1
  have he := okg.2.1
  obtain ⟨l1, l2⟩ := hl i hi
  have hx := K.1.1
  refine Cal.ofJ (by decide +kernel) rfl (Nat.le_of_ble_eq_true rfl) fun hz0 => ?_
  refine r_ls [some (.ref x), some (.int (nI i)), some (.int (nI w)), none, none, none] rfl ?_
  refine r_aload_n (pc := 0) (i := 0) (tX10_setWeight.at 0 rfl) rfl rfl ?_
  refine r_iload_n (pc := 1) (i := 1) (tX10_setWeight.at 1 rfl) rfl rfl ?_
  refine r_callV (M' := mX10_requireEdge) (pc := 2) (tX10_setWeight.at 2 rfl) ml_X10_130 rfl mw_X10_requireEdge ⟨by decide, by decide⟩ (hx) rfl rfl (c_reqE0 hx K.1.2.1 hi (by omega)) rfl rfl (Nat.le_of_ble_eq_true rfl) (Nat.le_of_ble_eq_true rfl) (Nat.le_of_ble_eq_true rfl) ?_
  rintro _ _ _ ⟨rfl, rfl, rfl⟩
  refine r_aload_n (pc := 5) (i := 0) (tX10_setWeight.at 3 rfl) rfl rfl ?_
  refine r_iload_n (pc := 6) (i := 2) (tX10_setWeight.at 4 rfl) rfl rfl ?_
  refine r_callV (M' := mX10_requireWeight) (pc := 7) (tX10_setWeight.at 5 rfl) ml_X10_278 rfl mw_X10_requireWeight ⟨by decide, by decide⟩ (hx) rfl rfl (c_reqW0 hw) rfl rfl (Nat.le_of_ble_eq_true rfl) (Nat.le_of_ble_eq_true rfl) (Nat.le_of_ble_eq_true rfl) ?_
  rintro _ _ _ ⟨rfl, rfl, rfl⟩
  refine r_aload_n (pc := 10) (i := 0) (tX10_setWeight.at 6 rfl) rfl rfl ?_
  refine r_get (pc := 11) (tX10_setWeight.at 7 rfl) gf_X10_23 (hx) rfl ?_
  refine r_aload_n (pc := 14) (i := 0) (tX10_setWeight.at 8 rfl) rfl rfl ?_
  refine r_get (pc := 15) (tX10_setWeight.at 9 rfl) gf_X10_16 (hx) rfl ?_
  refine r_callV (M' := mX4_keep) (pc := 18) (tX10_setWeight.at 10 rfl) ml_X10_114 rfl mw_X4_keep ⟨by decide, by decide⟩ (K.1.2.2.1.1) rfl rfl (c_keepX K z) rfl rfl (Nat.le_of_ble_eq_true rfl) (Nat.le_of_ble_eq_true rfl) (Nat.le_of_ble_eq_true rfl) ?_
  rintro _ H1 _ ⟨rfl, rfl, K1, f1⟩
  have hx1 := K1.1.1
  have hg1 : isG v H1 (x + 1) Z.2.1 := K1.1.2.1
  have k := c_putW2 (v := v) (h := H1) (top := top) (g := x + 1) (G := Z.2.1) (w := w) l1 l2
  rw [gH_self hg1] at k
  refine r_aload_n (pc := 21) (i := 0) (tX10_setWeight.at 11 rfl) rfl rfl ?_
  refine r_get (pc := 22) (tX10_setWeight.at 12 rfl) gf_X10_16 (hx1) rfl ?_
  refine r_get (pc := 25) (tX10_setWeight.at 13 rfl) gf_X10_135 (hg1.1) rfl ?_
  refine r_iload_n (pc := 28) (i := 1) (tX10_setWeight.at 14 rfl) rfl rfl ?_
  refine r_iald (pc := 29) (tX10_setWeight.at 15 rfl) (hg1.2.1) (i) (rfl) (by omega) (Nat.le_of_ble_eq_true rfl) ?_
  refine r_istore_n (pc := 30) (i := 3) (tX10_setWeight.at 16 rfl) rfl (by decide) ?_
  refine r_aload_n (pc := 31) (i := 0) (tX10_setWeight.at 17 rfl) rfl rfl ?_
  refine r_get (pc := 32) (tX10_setWeight.at 18 rfl) gf_X10_16 (hx1) rfl ?_
  refine r_get (pc := 35) (tX10_setWeight.at 19 rfl) gf_X10_139 (hg1.1) rfl ?_
  refine r_iload_n (pc := 38) (i := 1) (tX10_setWeight.at 20 rfl) rfl rfl ?_
  refine r_iald (pc := 39) (tX10_setWeight.at 21 rfl) (hg1.2.2.1) (i) (rfl) (by omega) (Nat.le_of_ble_eq_true rfl) ?_
  refine r_istore (pc := 40) (i := 4) (tX10_setWeight.at 22 rfl) (by decide) ?_
  refine r_aload_n (pc := 42) (i := 0) (tX10_setWeight.at 23 rfl) rfl rfl ?_
  refine r_get (pc := 43) (tX10_setWeight.at 24 rfl) gf_X10_16 (hx1) rfl ?_
  refine r_iload_n (pc := 46) (i := 3) (tX10_setWeight.at 25 rfl) rfl rfl ?_
  refine r_iload (pc := 47) (i := 4) (tX10_setWeight.at 26 rfl) rfl ?_
  refine r_callV (M' := mX3_weightBetween) (pc := 49) (tX10_setWeight.at 27 rfl) ml_X10_142 rfl mw_X3_weightBetween ⟨by decide, by decide⟩ (hg1.1) rfl rfl (c_wb hg1 (a := Z.2.1.L i) (b := Z.2.1.H i) (by omega)) rfl rfl (Nat.le_of_ble_eq_true rfl) (Nat.le_of_ble_eq_true rfl) (Nat.le_of_ble_eq_true rfl) ?_
  rintro _ _ _ ⟨rfl, rfl, rfl⟩
  refine r_istore (pc := 52) (i := 5) (tX10_setWeight.at 28 rfl) (by decide) ?_
  refine r_aload_n (pc := 54) (i := 0) (tX10_setWeight.at 29 rfl) rfl rfl ?_
  refine r_get (pc := 55) (tX10_setWeight.at 30 rfl) gf_X10_16 (hx1) rfl ?_
  refine r_iload_n (pc := 58) (i := 3) (tX10_setWeight.at 31 rfl) rfl rfl ?_
  refine r_iload (pc := 59) (i := 4) (tX10_setWeight.at 32 rfl) rfl ?_
  refine r_iload_n (pc := 61) (i := 2) (tX10_setWeight.at 33 rfl) rfl rfl ?_
  refine r_callV (M' := mX3_putWeight) (pc := 62) (tX10_setWeight.at 34 rfl) ml_X10_281 rfl mw_X3_putWeight ⟨by decide, by decide⟩ (hg1.1) rfl rfl (k) rfl rfl (Nat.le_of_ble_eq_true rfl) (Nat.le_of_ble_eq_true rfl) (Nat.le_of_ble_eq_true rfl) ?_
  rintro _ _ _ ⟨rfl, rfl, rfl⟩
  refine r_iload (pc := 65) (i := 5) (tX10_setWeight.at 35 rfl) rfl ?_
  refine r_iret (pc := 67) (tX10_setWeight.at 36 rfl) rfl (Nat.le_of_ble_eq_true rfl) (Nat.le_of_ble_eq_true rfl) ?_
  exact ⟨rfl, rfl, K1.sG _, f1.gH⟩
theorem c_addEdge {i j w : Nat} (K : okX v h x Z) (z : okZ Z) (he : Z.2.1.e < 15) (hi : i < Z.2.1.n) (hj : j < Z.2.1.n) (hne : i ≠ j) (hw : 1 ≤ w ∧ w ≤ 9) (h0 : Z.2.1.W (i * 6 + j) = 0) : Cal v mX10_addEdge 8 0 0 [.ref x, .int (nI i), .int (nI j), .int (nI w)] h top (pM v h top x (Z.keep.sG (Z.2.1.addE i j w)) (some (.int (nI Z.2.1.e)))) noX := by
  have okg := z.1
  have h6 := okg.1
  have hx := K.1.1
  have hg := K.1.2.1
  refine Cal.ofJ (by decide +kernel) rfl (Nat.le_of_ble_eq_true rfl) fun hz0 => ?_
  refine r_ls [some (.ref x), some (.int (nI i)), some (.int (nI j)), some (.int (nI w))] rfl ?_
  refine r_aload_n (pc := 0) (i := 0) (tX10_addEdge.at 0 rfl) rfl rfl ?_
  refine r_iload_n (pc := 1) (i := 1) (tX10_addEdge.at 1 rfl) rfl rfl ?_
  refine r_callV (M' := mX10_requireVertex) (pc := 2) (tX10_addEdge.at 2 rfl) ml_X10_150 rfl mw_X10_requireVertex ⟨by decide, by decide⟩ (hx) rfl rfl (c_reqV0 hx hg hi (by omega)) rfl rfl (Nat.le_of_ble_eq_true rfl) (Nat.le_of_ble_eq_true rfl) (Nat.le_of_ble_eq_true rfl) ?_
  rintro _ _ _ ⟨rfl, rfl, rfl⟩
  refine r_aload_n (pc := 5) (i := 0) (tX10_addEdge.at 3 rfl) rfl rfl ?_
  refine r_iload_n (pc := 6) (i := 2) (tX10_addEdge.at 4 rfl) rfl rfl ?_
  refine r_callV (M' := mX10_requireVertex) (pc := 7) (tX10_addEdge.at 5 rfl) ml_X10_150 rfl mw_X10_requireVertex ⟨by decide, by decide⟩ (hx) rfl rfl (c_reqV0 hx hg hj (by omega)) rfl rfl (Nat.le_of_ble_eq_true rfl) (Nat.le_of_ble_eq_true rfl) (Nat.le_of_ble_eq_true rfl) ?_
  rintro _ _ _ ⟨rfl, rfl, rfl⟩
  refine r_iload_n (pc := 10) (i := 1) (tX10_addEdge.at 6 rfl) rfl rfl ?_
  refine r_iload_n (pc := 11) (i := 2) (tX10_addEdge.at 7 rfl) rfl rfl ?_
  refine r_icmp_neN (pc := 12) 26 (tX10_addEdge.at 8 rfl) (by decide) (by omega) (by omega) (fun _ => ?_) (fun c => by omega)
  refine r_aload_n (pc := 26) (i := 0) (tX10_addEdge.at 14 rfl) rfl rfl ?_
  refine r_iload_n (pc := 27) (i := 3) (tX10_addEdge.at 15 rfl) rfl rfl ?_
  refine r_callV (M' := mX10_requireWeight) (pc := 28) (tX10_addEdge.at 16 rfl) ml_X10_278 rfl mw_X10_requireWeight ⟨by decide, by decide⟩ (hx) rfl rfl (c_reqW0 hw) rfl rfl (Nat.le_of_ble_eq_true rfl) (Nat.le_of_ble_eq_true rfl) (Nat.le_of_ble_eq_true rfl) ?_
  rintro _ _ _ ⟨rfl, rfl, rfl⟩
  refine r_aload_n (pc := 31) (i := 0) (tX10_addEdge.at 17 rfl) rfl rfl ?_
  refine r_get (pc := 32) (tX10_addEdge.at 18 rfl) gf_X10_16 (hx) rfl ?_
  refine r_iload_n (pc := 35) (i := 1) (tX10_addEdge.at 19 rfl) rfl rfl ?_
  refine r_iload_n (pc := 36) (i := 2) (tX10_addEdge.at 20 rfl) rfl rfl ?_
  refine r_callV (M' := mX3_weightBetween) (pc := 37) (tX10_addEdge.at 21 rfl) ml_X10_142 rfl mw_X3_weightBetween ⟨by decide, by decide⟩ (hg.1) rfl rfl (c_wb hg (by omega)) rfl rfl (Nat.le_of_ble_eq_true rfl) (Nat.le_of_ble_eq_true rfl) (Nat.le_of_ble_eq_true rfl) ?_
  rintro _ _ _ ⟨rfl, rfl, rfl⟩
  rw [h0]
  refine r_if_eqN (pc := 40) 54 (tX10_addEdge.at 22 rfl) (by decide) (by omega) (fun _ => ?_) (fun z => absurd rfl z)
  refine r_aload_n (pc := 54) (i := 0) (tX10_addEdge.at 28 rfl) rfl rfl ?_
  refine r_get (pc := 55) (tX10_addEdge.at 29 rfl) gf_X10_23 (hx) rfl ?_
  refine r_aload_n (pc := 58) (i := 0) (tX10_addEdge.at 30 rfl) rfl rfl ?_
  refine r_get (pc := 59) (tX10_addEdge.at 31 rfl) gf_X10_16 (hx) rfl ?_
  refine r_callV (M' := mX4_keep) (pc := 62) (tX10_addEdge.at 32 rfl) ml_X10_114 rfl mw_X4_keep ⟨by decide, by decide⟩ (K.1.2.2.1.1) rfl rfl (c_keepX K z) rfl rfl (Nat.le_of_ble_eq_true rfl) (Nat.le_of_ble_eq_true rfl) (Nat.le_of_ble_eq_true rfl) ?_
  rintro _ H1 _ ⟨rfl, rfl, K1, f1⟩
  have hx1 := K1.1.1
  have hg1 : isG v H1 (x + 1) Z.2.1 := K1.1.2.1
  have k := c_putE (v := v) (h := H1) (top := top) (g := x + 1) (G := Z.2.1) (w := w) he (a := i) (b := j) (by omega) (by omega)
  rw [gH_self hg1] at k
  refine r_aload_n (pc := 65) (i := 0) (tX10_addEdge.at 33 rfl) rfl rfl ?_
  refine r_get (pc := 66) (tX10_addEdge.at 34 rfl) gf_X10_16 (hx1) rfl ?_
  refine r_iload_n (pc := 69) (i := 1) (tX10_addEdge.at 35 rfl) rfl rfl ?_
  refine r_iload_n (pc := 70) (i := 2) (tX10_addEdge.at 36 rfl) rfl rfl ?_
  refine r_iload_n (pc := 71) (i := 3) (tX10_addEdge.at 37 rfl) rfl rfl ?_
  refine r_callV (M' := mX3_putEdge) (pc := 72) (tX10_addEdge.at 38 rfl) ml_X10_289 rfl mw_X3_putEdge ⟨by decide, by decide⟩ (hg1.1) rfl rfl (k) rfl rfl (Nat.le_of_ble_eq_true rfl) (Nat.le_of_ble_eq_true rfl) (Nat.le_of_ble_eq_true rfl) ?_
  rintro _ _ _ ⟨rfl, rfl, rfl⟩
  have K2 : okX v (gH v H1 (x + 1) (Z.2.1.addE i j w)) x (Z.keep.sG (Z.2.1.addE i j w)) := K1.sG _
  refine r_aload_n (pc := 75) (i := 0) (tX10_addEdge.at 39 rfl) rfl rfl ?_
  refine r_get (pc := 76) (tX10_addEdge.at 40 rfl) gf_X10_16 (K2.1.1) rfl ?_
  refine r_get (pc := 79) (tX10_addEdge.at 41 rfl) gf_X10_124 (K2.1.2.1.1) rfl ?_
  refine r_eq rfl (st2 := [.int (nI (Z.2.1.e + 1))]) rfl ?_
  refine r_iconst (pc := 82) (w := nI 1) (tX10_addEdge.at 42 rfl) (by decide) ?_
  first | refine r_isubN (pc := 83) (tX10_addEdge.at 43 rfl) (by omega) ?_ | refine r_isubZ (pc := 83) (tX10_addEdge.at 43 rfl) ?_ | refine r_isub (pc := 83) (tX10_addEdge.at 43 rfl) ?_
  refine r_iret (pc := 84) (tX10_addEdge.at 44 rfl) rfl (Nat.le_of_ble_eq_true rfl) (Nat.le_of_ble_eq_true rfl) ?_
  exact ⟨rfl, rfl, K2, f1.gH⟩
theorem c_removeEdge {i : Nat} (K : okX v h x Z) (z : okZ Z) (hl : okL Z.2.1) (hi : i < Z.2.1.e) : Cal v mX10_removeEdge 8 0 0 [.ref x, .int (nI i)] h top (pM v h top x (Z.keep.sG (Z.2.1.rmE i)) (some (.int (nI (Z.2.1.e - 1))))) noX := by
  have okg := z.1
  have he := okg.2.1
  obtain ⟨l1, l2⟩ := hl i hi
  have hx := K.1.1
  refine Cal.ofJ (by decide +kernel) rfl (Nat.le_of_ble_eq_true rfl) fun hz0 => ?_
  refine r_ls [some (.ref x), some (.int (nI i))] rfl ?_
  refine r_aload_n (pc := 0) (i := 0) (tX10_removeEdge.at 0 rfl) rfl rfl ?_
  refine r_iload_n (pc := 1) (i := 1) (tX10_removeEdge.at 1 rfl) rfl rfl ?_
  refine r_callV (M' := mX10_requireEdge) (pc := 2) (tX10_removeEdge.at 2 rfl) ml_X10_130 rfl mw_X10_requireEdge ⟨by decide, by decide⟩ (hx) rfl rfl (c_reqE0 hx K.1.2.1 hi (by omega)) rfl rfl (Nat.le_of_ble_eq_true rfl) (Nat.le_of_ble_eq_true rfl) (Nat.le_of_ble_eq_true rfl) ?_
  rintro _ _ _ ⟨rfl, rfl, rfl⟩
  refine r_aload_n (pc := 5) (i := 0) (tX10_removeEdge.at 3 rfl) rfl rfl ?_
  refine r_get (pc := 6) (tX10_removeEdge.at 4 rfl) gf_X10_23 (hx) rfl ?_
  refine r_aload_n (pc := 9) (i := 0) (tX10_removeEdge.at 5 rfl) rfl rfl ?_
  refine r_get (pc := 10) (tX10_removeEdge.at 6 rfl) gf_X10_16 (hx) rfl ?_
  refine r_callV (M' := mX4_keep) (pc := 13) (tX10_removeEdge.at 7 rfl) ml_X10_114 rfl mw_X4_keep ⟨by decide, by decide⟩ (K.1.2.2.1.1) rfl rfl (c_keepX K z) rfl rfl (Nat.le_of_ble_eq_true rfl) (Nat.le_of_ble_eq_true rfl) (Nat.le_of_ble_eq_true rfl) ?_
  rintro _ H1 _ ⟨rfl, rfl, K1, f1⟩
  have hx1 := K1.1.1
  have hg1 : isG v H1 (x + 1) Z.2.1 := K1.1.2.1
  have k := c_dropE (v := v) (h := H1) (top := top) (g := x + 1) (G := Z.2.1) he hi l1 l2
  rw [gH_self hg1] at k
  refine r_aload_n (pc := 16) (i := 0) (tX10_removeEdge.at 8 rfl) rfl rfl ?_
  refine r_get (pc := 17) (tX10_removeEdge.at 9 rfl) gf_X10_16 (hx1) rfl ?_
  refine r_iload_n (pc := 20) (i := 1) (tX10_removeEdge.at 10 rfl) rfl rfl ?_
  refine r_callV (M' := mX3_dropEdge) (pc := 21) (tX10_removeEdge.at 11 rfl) ml_X10_292 rfl mw_X3_dropEdge ⟨by decide, by decide⟩ (hg1.1) rfl rfl (k) rfl rfl (Nat.le_of_ble_eq_true rfl) (Nat.le_of_ble_eq_true rfl) (Nat.le_of_ble_eq_true rfl) ?_
  rintro _ _ _ ⟨rfl, rfl, rfl⟩
  have K2 : okX v (gH v H1 (x + 1) (Z.2.1.rmE i)) x (Z.keep.sG (Z.2.1.rmE i)) := K1.sG _
  refine r_aload_n (pc := 24) (i := 0) (tX10_removeEdge.at 12 rfl) rfl rfl ?_
  refine r_get (pc := 25) (tX10_removeEdge.at 13 rfl) gf_X10_16 (K2.1.1) rfl ?_
  refine r_get (pc := 28) (tX10_removeEdge.at 14 rfl) gf_X10_124 (K2.1.2.1.1) rfl ?_
  refine r_iret (pc := 31) (tX10_removeEdge.at 15 rfl) rfl (Nat.le_of_ble_eq_true rfl) (Nat.le_of_ble_eq_true rfl) ?_
  exact ⟨rfl, rfl, K2, f1.gH⟩
def sbA (a i p : Nat) : Nat := if p = 0 then dif a (2 ^ i) else a ||| 2 ^ i
theorem c_setAbs {i p : Nat} (K : okX v h x Z) (z : okZ Z) (hi : i < Z.2.1.n) (hp : p ≤ 1) : Cal v mX10_setAbsorbing 8 0 0 [.ref x, .int (nI i), .int (nI p)] h top (pM v h top x (Z.keep.sG (Z.2.1.sc Z.2.1.n Z.2.1.e (sbA Z.2.1.a i p) Z.2.1.b)) (some (.int (nI (sbA Z.2.1.a i p))))) noX := by
  have okg := z.1
  have h6 := okg.1
  have ha := okg.2.2.1
  have hx := K.1.1
  have p64' := p2_64 (show i < 6 by omega)
  refine Cal.ofJ (by decide +kernel) rfl (Nat.le_of_ble_eq_true rfl) fun hz0 => ?_
  refine r_ls [some (.ref x), some (.int (nI i)), some (.int (nI p)), none] rfl ?_
  refine r_aload_n (pc := 0) (i := 0) (tX10_setAbsorbing.at 0 rfl) rfl rfl ?_
  refine r_iload_n (pc := 1) (i := 1) (tX10_setAbsorbing.at 1 rfl) rfl rfl ?_
  refine r_callV (M' := mX10_requireVertex) (pc := 2) (tX10_setAbsorbing.at 2 rfl) ml_X10_150 rfl mw_X10_requireVertex ⟨by decide, by decide⟩ (hx) rfl rfl (c_reqV0 hx K.1.2.1 hi (by omega)) rfl rfl (Nat.le_of_ble_eq_true rfl) (Nat.le_of_ble_eq_true rfl) (Nat.le_of_ble_eq_true rfl) ?_
  rintro _ _ _ ⟨rfl, rfl, rfl⟩
  refine r_aload_n (pc := 5) (i := 0) (tX10_setAbsorbing.at 3 rfl) rfl rfl ?_
  refine r_get (pc := 6) (tX10_setAbsorbing.at 4 rfl) gf_X10_23 (hx) rfl ?_
  refine r_aload_n (pc := 9) (i := 0) (tX10_setAbsorbing.at 5 rfl) rfl rfl ?_
  refine r_get (pc := 10) (tX10_setAbsorbing.at 6 rfl) gf_X10_16 (hx) rfl ?_
  refine r_callV (M' := mX4_keep) (pc := 13) (tX10_setAbsorbing.at 7 rfl) ml_X10_114 rfl mw_X4_keep ⟨by decide, by decide⟩ (K.1.2.2.1.1) rfl rfl (c_keepX K z) rfl rfl (Nat.le_of_ble_eq_true rfl) (Nat.le_of_ble_eq_true rfl) (Nat.le_of_ble_eq_true rfl) ?_
  rintro _ H1 _ ⟨rfl, rfl, K1, f1⟩
  have hx1 := K1.1.1
  have hg1 : isG v H1 (x + 1) Z.2.1 := K1.1.2.1
  refine r_iconst (pc := 16) (w := nI 1) (tX10_setAbsorbing.at 8 rfl) (by decide) ?_
  refine r_iload_n (pc := 17) (i := 1) (tX10_setAbsorbing.at 9 rfl) rfl rfl ?_
  refine r_ishl (pc := 18) (tX10_setAbsorbing.at 10 rfl) ?_
  rw [bs_one i (by omega)]
  have fin : ∀ a, a = sbA Z.2.1.a i p → J v mX10_setAbsorbing (rmOf 8 0 0) (KM v (pM v h top x (Z.keep.sG (Z.2.1.sc Z.2.1.n Z.2.1.e (sbA Z.2.1.a i p) Z.2.1.b)) (some (.int (nI (sbA Z.2.1.a i p))))) noX 0 0) top 0 0 H1 top 51 [some (.ref x), some (.int (nI i)), some (.int (nI p)), some (.int (nI (2 ^ i)))] [.int (nI a), .ref (x + 1)] := by
    intro a e
    subst e
    have k := gH_p0 (v := v) (h := H1) (g := x + 1) Z.2.1 Z.2.1.n Z.2.1.e (sbA Z.2.1.a i p) Z.2.1.b
    rw [gH_self hg1] at k
    refine r_put (pc := 51) (tX10_setAbsorbing.at 29 rfl) pf_X10_197 (hg1.1) (Nat.le_of_ble_eq_true rfl) (rfl) (rfl) ?_
    refine r_eq (h2 := gH v H1 (x + 1) (Z.2.1.sc Z.2.1.n Z.2.1.e (sbA Z.2.1.a i p) Z.2.1.b)) k rfl ?_
    have K2 : okX v (gH v H1 (x + 1) (Z.2.1.sc Z.2.1.n Z.2.1.e (sbA Z.2.1.a i p) Z.2.1.b)) x (Z.keep.sG (Z.2.1.sc Z.2.1.n Z.2.1.e (sbA Z.2.1.a i p) Z.2.1.b)) := K1.sG _
    refine r_aload_n (pc := 54) (i := 0) (tX10_setAbsorbing.at 30 rfl) rfl rfl ?_
    refine r_get (pc := 55) (tX10_setAbsorbing.at 31 rfl) gf_X10_16 (K2.1.1) rfl ?_
    refine r_get (pc := 58) (tX10_setAbsorbing.at 32 rfl) gf_X10_197 (K2.1.2.1.1) rfl ?_
    refine r_iret (pc := 61) (tX10_setAbsorbing.at 33 rfl) rfl (Nat.le_of_ble_eq_true rfl) (Nat.le_of_ble_eq_true rfl) ?_
    exact ⟨rfl, rfl, K2, f1.gH⟩
  refine r_istore_n (pc := 19) (i := 3) (tX10_setAbsorbing.at 11 rfl) rfl (by decide) ?_
  refine r_aload_n (pc := 20) (i := 0) (tX10_setAbsorbing.at 12 rfl) rfl rfl ?_
  refine r_get (pc := 21) (tX10_setAbsorbing.at 13 rfl) gf_X10_16 (hx1) rfl ?_
  refine r_iload_n (pc := 24) (i := 2) (tX10_setAbsorbing.at 14 rfl) rfl rfl ?_
  refine r_if_eqN (pc := 25) 40 (tX10_setAbsorbing.at 15 rfl) (by decide) (by omega) (fun c => ?_) (fun c => ?_)
  · refine r_aload_n (pc := 40) (i := 0) (tX10_setAbsorbing.at 22 rfl) rfl rfl ?_
    refine r_get (pc := 41) (tX10_setAbsorbing.at 23 rfl) gf_X10_16 (hx1) rfl ?_
    refine r_get (pc := 44) (tX10_setAbsorbing.at 24 rfl) gf_X10_197 (hg1.1) rfl ?_
    refine r_iload_n (pc := 47) (i := 3) (tX10_setAbsorbing.at 25 rfl) rfl rfl ?_
    refine r_iconst (pc := 48) (w := zI (-1)) (tX10_setAbsorbing.at 26 rfl) (by decide) ?_
    refine r_ixor (pc := 49) (tX10_setAbsorbing.at 27 rfl) ?_
    refine r_iand (pc := 50) (tX10_setAbsorbing.at 28 rfl) ?_
    rw [bs_dif _ ha _ p64']
    exact fin _ (by rw [sbA, if_pos c])
  · refine r_aload_n (pc := 28) (i := 0) (tX10_setAbsorbing.at 16 rfl) rfl rfl ?_
    refine r_get (pc := 29) (tX10_setAbsorbing.at 17 rfl) gf_X10_16 (hx1) rfl ?_
    refine r_get (pc := 32) (tX10_setAbsorbing.at 18 rfl) gf_X10_197 (hg1.1) rfl ?_
    refine r_iload_n (pc := 35) (i := 3) (tX10_setAbsorbing.at 19 rfl) rfl rfl ?_
    refine r_ior (pc := 36) (tX10_setAbsorbing.at 20 rfl) ?_
    rw [bs_or _ ha _ p64']
    refine r_goto (pc := 37) 51 (tX10_setAbsorbing.at 21 rfl) (by decide) ?_
    exact fin _ (by rw [sbA, if_neg c])
theorem c_join {i j : Nat} (K : okX v h x Z) (z : okZ Z) (hi : i < Z.2.1.n) (hj : j < Z.2.1.n) : Cal v mX10_join 8 0 0 [.ref x, .int (nI i), .int (nI j)] h top (pM v h top x (Z.keep.sG (Z.2.1.unite i j)) (some (.int (nI (Z.2.1.unite i j).b)))) noX := by
  have okg := z.1
  have h6 := okg.1
  have hx := K.1.1
  have hg := K.1.2.1
  refine Cal.ofJ (by decide +kernel) rfl (Nat.le_of_ble_eq_true rfl) fun hz0 => ?_
  refine r_ls [some (.ref x), some (.int (nI i)), some (.int (nI j))] rfl ?_
  refine r_aload_n (pc := 0) (i := 0) (tX10_join.at 0 rfl) rfl rfl ?_
  refine r_iload_n (pc := 1) (i := 1) (tX10_join.at 1 rfl) rfl rfl ?_
  refine r_callV (M' := mX10_requireVertex) (pc := 2) (tX10_join.at 2 rfl) ml_X10_150 rfl mw_X10_requireVertex ⟨by decide, by decide⟩ (hx) rfl rfl (c_reqV0 hx hg hi (by omega)) rfl rfl (Nat.le_of_ble_eq_true rfl) (Nat.le_of_ble_eq_true rfl) (Nat.le_of_ble_eq_true rfl) ?_
  rintro _ _ _ ⟨rfl, rfl, rfl⟩
  refine r_aload_n (pc := 5) (i := 0) (tX10_join.at 3 rfl) rfl rfl ?_
  refine r_iload_n (pc := 6) (i := 2) (tX10_join.at 4 rfl) rfl rfl ?_
  refine r_callV (M' := mX10_requireVertex) (pc := 7) (tX10_join.at 5 rfl) ml_X10_150 rfl mw_X10_requireVertex ⟨by decide, by decide⟩ (hx) rfl rfl (c_reqV0 hx hg hj (by omega)) rfl rfl (Nat.le_of_ble_eq_true rfl) (Nat.le_of_ble_eq_true rfl) (Nat.le_of_ble_eq_true rfl) ?_
  rintro _ _ _ ⟨rfl, rfl, rfl⟩
  refine r_aload_n (pc := 10) (i := 0) (tX10_join.at 6 rfl) rfl rfl ?_
  refine r_get (pc := 11) (tX10_join.at 7 rfl) gf_X10_23 (hx) rfl ?_
  refine r_aload_n (pc := 14) (i := 0) (tX10_join.at 8 rfl) rfl rfl ?_
  refine r_get (pc := 15) (tX10_join.at 9 rfl) gf_X10_16 (hx) rfl ?_
  refine r_callV (M' := mX4_keep) (pc := 18) (tX10_join.at 10 rfl) ml_X10_114 rfl mw_X4_keep ⟨by decide, by decide⟩ (K.1.2.2.1.1) rfl rfl (c_keepX K z) rfl rfl (Nat.le_of_ble_eq_true rfl) (Nat.le_of_ble_eq_true rfl) (Nat.le_of_ble_eq_true rfl) ?_
  rintro _ H1 _ ⟨rfl, rfl, K1, f1⟩
  have hx1 := K1.1.1
  have hg1 : isG v H1 (x + 1) Z.2.1 := K1.1.2.1
  have k := c_unite (v := v) (h := H1) (top := top) (g := x + 1) (G := Z.2.1) (a := i) (b := j) h6 okg.b7 (by omega) (by omega)
  rw [gH_self hg1] at k
  refine r_aload_n (pc := 21) (i := 0) (tX10_join.at 11 rfl) rfl rfl ?_
  refine r_get (pc := 22) (tX10_join.at 12 rfl) gf_X10_16 (hx1) rfl ?_
  refine r_iload_n (pc := 25) (i := 1) (tX10_join.at 13 rfl) rfl rfl ?_
  refine r_iload_n (pc := 26) (i := 2) (tX10_join.at 14 rfl) rfl rfl ?_
  refine r_callV (M' := mX3_uniteBlocks) (pc := 27) (tX10_join.at 15 rfl) ml_X10_295 rfl mw_X3_uniteBlocks ⟨by decide, by decide⟩ (hg1.1) rfl rfl (k) rfl rfl (Nat.le_of_ble_eq_true rfl) (Nat.le_of_ble_eq_true rfl) (Nat.le_of_ble_eq_true rfl) ?_
  rintro _ _ _ ⟨rfl, rfl, rfl⟩
  have K2 : okX v (gH v H1 (x + 1) (Z.2.1.unite i j)) x (Z.keep.sG (Z.2.1.unite i j)) := K1.sG _
  refine r_aload_n (pc := 30) (i := 0) (tX10_join.at 16 rfl) rfl rfl ?_
  refine r_get (pc := 31) (tX10_join.at 17 rfl) gf_X10_16 (K2.1.1) rfl ?_
  refine r_get (pc := 34) (tX10_join.at 18 rfl) gf_X10_222 (K2.1.2.1.1) rfl ?_
  refine r_iret (pc := 37) (tX10_join.at 19 rfl) rfl (Nat.le_of_ble_eq_true rfl) (Nat.le_of_ble_eq_true rfl) ?_
  exact ⟨rfl, rfl, K2, f1.gH⟩
theorem c_separate {i : Nat} (K : okX v h x Z) (z : okZ Z) (hi : i < Z.2.1.n) : Cal v mX10_separate 8 0 0 [.ref x, .int (nI i)] h top (pM v h top x (Z.keep.sG (Z.2.1.isol i)) (some (.int (nI (Z.2.1.isol i).b)))) noX := by
  have okg := z.1
  have h6 := okg.1
  have hx := K.1.1
  have hg := K.1.2.1
  refine Cal.ofJ (by decide +kernel) rfl (Nat.le_of_ble_eq_true rfl) fun hz0 => ?_
  refine r_ls [some (.ref x), some (.int (nI i))] rfl ?_
  refine r_aload_n (pc := 0) (i := 0) (tX10_separate.at 0 rfl) rfl rfl ?_
  refine r_iload_n (pc := 1) (i := 1) (tX10_separate.at 1 rfl) rfl rfl ?_
  refine r_callV (M' := mX10_requireVertex) (pc := 2) (tX10_separate.at 2 rfl) ml_X10_150 rfl mw_X10_requireVertex ⟨by decide, by decide⟩ (hx) rfl rfl (c_reqV0 hx hg hi (by omega)) rfl rfl (Nat.le_of_ble_eq_true rfl) (Nat.le_of_ble_eq_true rfl) (Nat.le_of_ble_eq_true rfl) ?_
  rintro _ _ _ ⟨rfl, rfl, rfl⟩
  refine r_aload_n (pc := 5) (i := 0) (tX10_separate.at 3 rfl) rfl rfl ?_
  refine r_get (pc := 6) (tX10_separate.at 4 rfl) gf_X10_23 (hx) rfl ?_
  refine r_aload_n (pc := 9) (i := 0) (tX10_separate.at 5 rfl) rfl rfl ?_
  refine r_get (pc := 10) (tX10_separate.at 6 rfl) gf_X10_16 (hx) rfl ?_
  refine r_callV (M' := mX4_keep) (pc := 13) (tX10_separate.at 7 rfl) ml_X10_114 rfl mw_X4_keep ⟨by decide, by decide⟩ (K.1.2.2.1.1) rfl rfl (c_keepX K z) rfl rfl (Nat.le_of_ble_eq_true rfl) (Nat.le_of_ble_eq_true rfl) (Nat.le_of_ble_eq_true rfl) ?_
  rintro _ H1 _ ⟨rfl, rfl, K1, f1⟩
  have hx1 := K1.1.1
  have hg1 : isG v H1 (x + 1) Z.2.1 := K1.1.2.1
  have k := c_isol (v := v) (h := H1) (top := top) (g := x + 1) (G := Z.2.1) (x := i) h6 okg.b7 (by omega)
  rw [gH_self hg1] at k
  refine r_aload_n (pc := 16) (i := 0) (tX10_separate.at 8 rfl) rfl rfl ?_
  refine r_get (pc := 17) (tX10_separate.at 9 rfl) gf_X10_16 (hx1) rfl ?_
  refine r_iload_n (pc := 20) (i := 1) (tX10_separate.at 10 rfl) rfl rfl ?_
  refine r_callV (M' := mX3_isolateInBlock) (pc := 21) (tX10_separate.at 11 rfl) ml_X10_298 rfl mw_X3_isolateInBlock ⟨by decide, by decide⟩ (hg1.1) rfl rfl (k) rfl rfl (Nat.le_of_ble_eq_true rfl) (Nat.le_of_ble_eq_true rfl) (Nat.le_of_ble_eq_true rfl) ?_
  rintro _ _ _ ⟨rfl, rfl, rfl⟩
  have K2 : okX v (gH v H1 (x + 1) (Z.2.1.isol i)) x (Z.keep.sG (Z.2.1.isol i)) := K1.sG _
  refine r_aload_n (pc := 24) (i := 0) (tX10_separate.at 12 rfl) rfl rfl ?_
  refine r_get (pc := 25) (tX10_separate.at 13 rfl) gf_X10_16 (K2.1.1) rfl ?_
  refine r_get (pc := 28) (tX10_separate.at 14 rfl) gf_X10_222 (K2.1.2.1.1) rfl ?_
  refine r_iret (pc := 31) (tX10_separate.at 15 rfl) rfl (Nat.le_of_ble_eq_true rfl) (Nat.le_of_ble_eq_true rfl) ?_
  exact ⟨rfl, rfl, K2, f1.gH⟩
theorem c_refineX (K : okX v h x Z) (z : okZ Z) : Cal v mX10_refine 8 0 0 [.ref x] h top (pM v h top x (Z.keep.sG (GT.rfn 6 Z.2.1)) (some (.int (nI (GT.rfn 6 Z.2.1).b)))) noX := by
  have okg := z.1
  have hb := z.2.1
  have hx := K.1.1
  refine Cal.ofJ (by decide +kernel) rfl (Nat.le_of_ble_eq_true rfl) fun hz0 => ?_
  refine r_ls [some (.ref x)] rfl ?_
  refine r_aload_n (pc := 0) (i := 0) (tX10_refine.at 0 rfl) rfl rfl ?_
  refine r_get (pc := 1) (tX10_refine.at 1 rfl) gf_X10_23 (hx) rfl ?_
  refine r_aload_n (pc := 4) (i := 0) (tX10_refine.at 2 rfl) rfl rfl ?_
  refine r_get (pc := 5) (tX10_refine.at 3 rfl) gf_X10_16 (hx) rfl ?_
  refine r_callV (M' := mX4_keep) (pc := 8) (tX10_refine.at 4 rfl) ml_X10_114 rfl mw_X4_keep ⟨by decide, by decide⟩ (K.1.2.2.1.1) rfl rfl (c_keepX K z) rfl rfl (Nat.le_of_ble_eq_true rfl) (Nat.le_of_ble_eq_true rfl) (Nat.le_of_ble_eq_true rfl) ?_
  rintro _ H1 _ ⟨rfl, rfl, K1, f1⟩
  have hx1 := K1.1.1
  have hg1 : isG v H1 (x + 1) Z.2.1 := K1.1.2.1
  obtain ⟨L, gn, fn, hP⟩ := K1.2.1.2.1
  have k := c_refine (v := v) (h := H1) (top := top) (g := x + 1) (q := x + 74) (G := Z.2.1) (L := L) (gn := gn) (fn := fn) (by omega) okg.1 okg.b7 hb okg.2.2.2.2
  rw [hP.self, gH_self hg1] at k
  refine r_aload_n (pc := 11) (i := 0) (tX10_refine.at 5 rfl) rfl rfl ?_
  refine r_get (pc := 12) (tX10_refine.at 6 rfl) gf_X10_44 (hx1) rfl ?_
  refine r_aload_n (pc := 15) (i := 0) (tX10_refine.at 7 rfl) rfl rfl ?_
  refine r_get (pc := 16) (tX10_refine.at 8 rfl) gf_X10_16 (hx1) rfl ?_
  refine r_callV (M' := mX5_refineBlocks) (pc := 19) (tX10_refine.at 9 rfl) ml_X10_301 rfl mw_X5_refineBlocks ⟨by decide, by decide⟩ (hP.1) rfl rfl (k) rfl rfl (Nat.le_of_ble_eq_true rfl) (Nat.le_of_ble_eq_true rfl) (Nat.le_of_ble_eq_true rfl) ?_
  rintro _ _ _ ⟨rfl, rfl, f', rfl⟩
  have K2 : okX v (gH v (pH v H1 (x + 74) L gn f') (x + 1) (GT.rfn 6 Z.2.1)) x (Z.keep.sG (GT.rfn 6 Z.2.1)) := (K1.uP ⟨_, _, _, pH_is⟩ (fun a ha => pH_out ha)).sG _
  refine r_aload_n (pc := 22) (i := 0) (tX10_refine.at 10 rfl) rfl rfl ?_
  refine r_get (pc := 23) (tX10_refine.at 11 rfl) gf_X10_16 (K2.1.1) rfl ?_
  refine r_get (pc := 26) (tX10_refine.at 12 rfl) gf_X10_222 (K2.1.2.1.1) rfl ?_
  refine r_iret (pc := 29) (tX10_refine.at 13 rfl) rfl (Nat.le_of_ble_eq_true rfl) (Nat.le_of_ble_eq_true rfl) ?_
  exact ⟨rfl, rfl, K2, fun a ha => by rw [gH_out _ _ _ _ (by omega), pH_out (by omega)]; exact f1 a ha⟩
def CS.und (Z : CS) : CS := if Z.2.2.2.1 = 0 then Z else (Z.1, Z.2.1.cop (Z.2.2.2.2 ((Z.2.2.1 + 7) % 8)), (Z.2.2.1 + 7) % 8, Z.2.2.2.1 - 1, Z.2.2.2.2)
theorem c_undo (K : okX v h x Z) (z : okZ Z) : Cal v mX10_undo 8 0 0 [.ref x] h top (pM v h top x Z.und (some (.int (if Z.2.2.2.1 = 0 then zI (-1) else nI (Z.2.2.2.1 - 1))))) noX := by
  obtain ⟨-, -, hp8, hc8, -⟩ := z
  have hx := K.1.1
  have hH := K.1.2.2.1
  refine Cal.ofJ (by decide +kernel) rfl (Nat.le_of_ble_eq_true rfl) fun hz0 => ?_
  refine r_ls [some (.ref x)] rfl ?_
  refine r_aload_n (pc := 0) (i := 0) (tX10_undo.at 0 rfl) rfl rfl ?_
  refine r_get (pc := 1) (tX10_undo.at 1 rfl) gf_X10_23 (hx) rfl ?_
  refine r_aload_n (pc := 4) (i := 0) (tX10_undo.at 2 rfl) rfl rfl ?_
  refine r_get (pc := 5) (tX10_undo.at 3 rfl) gf_X10_16 (hx) rfl ?_
  refine r_callV (M' := mX4_restore) (pc := 8) (tX10_undo.at 4 rfl) ml_X10_304 rfl mw_X4_restore ⟨by decide, by decide⟩ (hH.1) rfl rfl (c_restore hH hp8 hc8 K.1.2.1 (by omega)) rfl rfl (Nat.le_of_ble_eq_true rfl) (Nat.le_of_ble_eq_true rfl) (Nat.le_of_ble_eq_true rfl) ?_
  rintro _ _ _ ⟨rfl, hor⟩
  by_cases c : Z.2.2.2.1 = 0
  · rw [if_pos c] at hor
    obtain ⟨rfl, rfl⟩ := hor
    refine r_iret (pc := 11) (tX10_undo.at 5 rfl) rfl (Nat.le_of_ble_eq_true rfl) (Nat.le_of_ble_eq_true rfl) ?_
    refine ⟨by rw [if_pos c], rfl, ?_, fun a _ => rfl⟩
    rw [CS.und, if_pos c]
    exact K
  · rw [if_neg c] at hor
    obtain ⟨rfl, rfl⟩ := hor
    refine r_iret (pc := 11) (tX10_undo.at 5 rfl) rfl (Nat.le_of_ble_eq_true rfl) (Nat.le_of_ble_eq_true rfl) ?_
    refine ⟨by rw [if_neg c], rfl, ?_, fun a ha => ?_⟩
    · rw [CS.und, if_neg c]
      have K1 : okX v (hp h (x + 7) (hE (x + 7) ((Z.2.2.1 + 7) % 8) (Z.2.2.2.1 - 1))) x (Z.1, Z.2.1, (Z.2.2.1 + 7) % 8, Z.2.2.2.1 - 1, Z.2.2.2.2) := K.uH ⟨hp_eq _ _ _, (hp_ne _ _ (by omega)).trans hH.2.1, fun i hi => (hH.2.2 i hi).put (by unfold kA; omega)⟩ (fun a ha => hp_ne _ _ (by omega))
      exact K1.sG _
    · rw [gH_out _ _ _ _ (by omega), hp_ne _ _ (by omega)]
end

