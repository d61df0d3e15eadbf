/-! ===== questions that may be refused, on both sides ===== -/
theorem lmt_ok {G : GT} (wf : wfG G) (can : canB G) (hpt : ptB G = false) {i j : Nat} (hi : i < G.b) (hj : j < G.b) (hw : rcm G.W G.n (fsM G i) &&& stM G.B j G.n ≠ 0) : okMn G.W G.n (stM G.B j G.n) (fsM G i) (stG G.W G.n) ∧ (rch (lpF G) G.b i).testBit j = true ∧ okM (lpF G) G.b i j (lgF G) ∧ muA (lpF G) G.b i j (lgF G) = frA (mqN G.W G.n (stM G.B j G.n) (fsM G i) (stG G.W G.n)) (mqD G.W G.n (stM G.B j G.n) (fsM G i) (stG G.W G.n)) ∧ muB (lpF G) G.b i j (lgF G) = frB (mqN G.W G.n (stM G.B j G.n) (fsM G i) (stG G.W G.n)) (mqD G.W G.n (stM G.B j G.n) (fsM G i) (stG G.W G.n)) := by
  have hW := wf.gd
  have hb6 := can.b6 hW.1
  obtain ⟨f1, f2⟩ := fsM_lt (can.ex i hi)
  have w2 := (blk_way hW hb6 can.lt (lum_of hpt) f1 hj).mpr hw
  obtain ⟨q1, q2, q3, q4⟩ := lmt_eq hW hb6 can.lt can.ex (lum_of hpt) f1 hj w2
  rw [f2] at w2 q1 q3 q4
  refine ⟨q2, ?_, q1, q3, q4⟩
  rw [rch_rcm hi hb6]
  exact w2
theorem lmt_no {G : GT} (wf : wfG G) (can : canB G) (hpt : ptB G = false) {i j : Nat} (hi : i < G.b) (hj : j < G.b) (hw : rcm G.W G.n (fsM G i) &&& stM G.B j G.n = 0) : (rch (lpF G) G.b i).testBit j = false := by
  have hW := wf.gd
  have hb6 := can.b6 hW.1
  obtain ⟨f1, f2⟩ := fsM_lt (can.ex i hi)
  have w2 := blk_way hW hb6 can.lt (lum_of hpt) f1 hj
  rw [f2] at w2
  rw [rch_rcm hi hb6]
  exact Bool.eq_false_iff.mpr (fun z => (w2.mp z) hw)
section
variable {v : Ev} {h : Hp} {top x : Nat} {Z : CS} {S : MS}
theorem op_degree (I : Inv v h top x Z S) (w1 : Int32) : PairB v x mL_degree mX11_degree [.int w1] isI 5 h top := by
  obtain ⟨z1, hz1, rfl⟩ := w_int w1
  obtain ⟨cn, cc, hr, hc⟩ := I.cur
  have K := I.1
  have okz := I.okZ
  have hW := hr.2.1.gd
  have hM := refQ I (fun h0 top0 => c_mDegree (v := v) (h := h0) (m := x + 96) (top := top0) hr hz1)
  rcases vt_cases Z.2.1 z1 with ⟨i1, rfl, hi1, e1⟩ | ⟨hk1, e1⟩
  rotate_left
  · rw [e1] at hM
    exact mkB (y := 0) I ⟨by omega, by omega, by omega, by omega⟩ (thw I (wE_degree_1 K.1.1 (x_degree_0 K okz.1 hz1 hk1)) (xQ I) (by omega)) hM (isI_no (by omega))
  · rw [e1] at hM
    rw [zI_nat] at hM ⊢
    exact mkB I ⟨by omega, by omega, by omega, by omega⟩ (nrm I (wN_degree K.1.1 (c_degr K okz hi1) (oJ I))) hM (isI_ok rfl)
theorem op_reachable (I : Inv v h top x Z S) (w1 : Int32) : PairB v x mL_reachable mX11_reachable [.int w1] isI 5 h top := by
  obtain ⟨z1, hz1, rfl⟩ := w_int w1
  obtain ⟨cn, cc, hr, hc⟩ := I.cur
  have K := I.1
  have okz := I.okZ
  have hW := hr.2.1.gd
  have hM := refQ I (fun h0 top0 => c_mReachable (v := v) (h := h0) (m := x + 96) (top := top0) hr hz1)
  rcases vt_cases Z.2.1 z1 with ⟨i1, rfl, hi1, e1⟩ | ⟨hk1, e1⟩
  rotate_left
  · rw [e1] at hM
    exact mkB (y := 0) I ⟨by omega, by omega, by omega, by omega⟩ (thw I (wE_reachable_1 K.1.1 (x_reachable_0 K okz.1 hz1 hk1)) (xQ I) (by omega)) hM (isI_no (by omega))
  · rw [e1] at hM
    rw [zI_nat] at hM ⊢
    exact mkB I ⟨by omega, by omega, by omega, by omega⟩ (nrm I (wN_reachable K.1.1 (c_reach K okz hi1) (oJ I))) hM (isI_ok (congrArg nI (rch_rcm hi1 hr.2.1.1.1).symm))
theorem op_blockOf (I : Inv v h top x Z S) (w1 : Int32) : PairB v x mL_blockOf mX11_blockOf [.int w1] isI 5 h top := by
  obtain ⟨z1, hz1, rfl⟩ := w_int w1
  obtain ⟨cn, cc, hr, hc⟩ := I.cur
  have K := I.1
  have okz := I.okZ
  have hW := hr.2.1.gd
  have hM := refQ I (fun h0 top0 => c_mBlockOf (v := v) (h := h0) (m := x + 96) (top := top0) hr hz1)
  rcases vt_cases Z.2.1 z1 with ⟨i1, rfl, hi1, e1⟩ | ⟨hk1, e1⟩
  rotate_left
  · rw [e1] at hM
    exact mkB (y := 0) I ⟨by omega, by omega, by omega, by omega⟩ (thw I (wE_blockOf_1 K.1.1 (x_blockOf_0 K okz.1 hz1 hk1)) (xQ I) (by omega)) hM (isI_no (by omega))
  · rw [e1] at hM
    rw [zI_nat] at hM ⊢
    exact mkB I ⟨by omega, by omega, by omega, by omega⟩ (nrm I (wN_blockOf K.1.1 (c_blkOf K okz hi1) (oJ I))) hM (isI_ok rfl)
theorem op_transition (I : Inv v h top x Z S) {p : Nat} (hp2 : p ≤ 1) (w1 w2 : Int32) : PairB v x mL_transition mX11_transition [.int w1, .int w2, .int (nI p)] isI 6 h top := by
  obtain ⟨z1, hz1, rfl⟩ := w_int w1
  obtain ⟨z2, hz2, rfl⟩ := w_int w2
  obtain ⟨cn, cc, hr, hc⟩ := I.cur
  have K := I.1
  have okz := I.okZ
  have hW := hr.2.1.gd
  have hM := refQ I (fun h0 top0 => c_mTrans (v := v) (h := h0) (m := x + 96) (top := top0) hr hz1 hz2 hp2)
  rcases vt_cases Z.2.1 z1 with ⟨i1, rfl, hi1, e1⟩ | ⟨hk1, e1⟩
  rotate_left
  · rw [if_neg (by omega)] at hM
    exact mkB (y := 0) I ⟨by omega, by omega, by omega, by omega⟩ (thw I (wE_transition_1 K.1.1 (x_transition_0 K okz.1 hz1 hk1)) (xQ I) (by omega)) hM (isI_no (by omega))
  rw [if_pos e1] at hM
  rcases vt_cases Z.2.1 z2 with ⟨i2, rfl, hi2, e2⟩ | ⟨hk2, e2⟩
  rotate_left
  · rw [e2] at hM
    rw [zI_nat] at hM ⊢
    exact mkB (y := 0) I ⟨by omega, by omega, by omega, by omega⟩ (thw I (wE_transition_1 K.1.1 (x_transition_1 K okz.1 hi1 hz2 hk2)) (xQ I) (by omega)) hM (isI_no (by omega))
  · rw [e2] at hM
    rw [zI_nat, zI_nat] at hM ⊢
    refine mkB I ⟨by omega, by omega, by omega, by omega⟩ (nrm I (wN_transition K.1.1 (c_trans K okz hi1 hi2 hp2) (oJ I))) hM (isI_ok ?_)
    show zI (fp p (frA (stN Z.2.1.W Z.2.1.n i1 i2) (stD Z.2.1.W Z.2.1.n i1)) (frB (stN Z.2.1.W Z.2.1.n i1 i2) (stD Z.2.1.W Z.2.1.n i1))) = _
    rw [ch_fr.1, ch_fr.2]
theorem op_hittingTime (I : Inv v h top x Z S) {p : Nat} (hp2 : p ≤ 1) (w1 w2 : Int32) : PairB v x mL_hittingTime mX11_hittingTime [.int w1, .int w2, .int (nI p)] isJ 7 h top := by
  obtain ⟨z1, hz1, rfl⟩ := w_int w1
  obtain ⟨z2, hz2, rfl⟩ := w_int w2
  obtain ⟨cn, cc, hr, hc⟩ := I.cur
  have K := I.1
  have okz := I.okZ
  have hW := hr.2.1.gd
  have hM := refQ I (fun h0 top0 => c_mHitT (v := v) (h := h0) (m := x + 96) (top := top0) hr hz1 hz2 hp2 (fun c => by
    obtain ⟨i, j, rfl, rfl, hi, hj, hw⟩ := go_nat c
    exact (hit_eq hW (fun k hk => Nat.le_trans (stG_45 hW k hk) (by omega)) hi hj hw).2.1))
  rcases vt_cases Z.2.1 z1 with ⟨i1, rfl, hi1, e1⟩ | ⟨hk1, e1⟩
  rotate_left
  · have e : goT Z.2.1 z1 z2 = 1 := if_neg (by omega)
    rw [e] at hM
    exact mkB (y := 0) I ⟨by omega, by omega, by omega, by omega⟩ (thw I (wE_hittingTime_1 K.1.1 (x_hittingTime_0 K okz.1 hz1 hk1)) (xQ I) (by omega)) hM (isJ_no (by omega))
  rcases vt_cases Z.2.1 z2 with ⟨i2, rfl, hi2, e2⟩ | ⟨hk2, e2⟩
  rotate_left
  · have e : goT Z.2.1 (i1 : Int) z2 = 1 := (if_pos e1).trans (if_neg (by omega))
    rw [e] at hM
    rw [zI_nat] at hM ⊢
    exact mkB (y := 0) I ⟨by omega, by omega, by omega, by omega⟩ (thw I (wE_hittingTime_1 K.1.1 (x_hittingTime_1 K okz.1 hi1 hz2 hk2)) (xQ I) (by omega)) hM (isJ_no (by omega))
  by_cases hw : (rcm Z.2.1.W Z.2.1.n i1).testBit i2 = true
  rotate_left
  · have e : goT Z.2.1 (i1 : Int) (i2 : Int) = 2 := (if_pos e1).trans ((if_pos e2).trans (if_neg hw))
    rw [e] at hM
    rw [zI_nat, zI_nat] at hM ⊢
    have hw2 : (rch Z.2.1.W Z.2.1.n i1).testBit i2 = false := by rw [rch_rcm hi1 hr.2.1.1.1]; exact Bool.eq_false_iff.mpr hw
    exact mkB (y := 0) I ⟨by omega, by omega, by omega, by omega⟩ (thw I (wE_hittingTime_2 K.1.1 (x_hittingTime_2 K okz.1 hi1 hi2 hw2)) (xQ I) (by omega)) hM (isJ_no (by omega))
  · have e : goT Z.2.1 (i1 : Int) (i2 : Int) = 0 := (if_pos e1).trans ((if_pos e2).trans (if_pos hw))
    rw [e] at hM
    rw [zI_nat, zI_nat] at hM ⊢
    have hw2 : (rch Z.2.1.W Z.2.1.n i1).testBit i2 = true := by rw [rch_rcm hi1 hr.2.1.1.1]; exact hw
    have q := hit_eq hW (fun k hk => Nat.le_trans (stG_45 hW k hk) (by omega)) hi1 hi2 hw
    refine mkB I ⟨by omega, by omega, by omega, by omega⟩ (nrm I (wN_hittingTime K.1.1 (c_hitT K okz hi1 hi2 hp2 hw2 q.1) (oJ I))) hM (isJ_ok (congrArg lI ?_))
    show mqP Z.2.1.W Z.2.1.n (2 ^ i2) i1 (stG Z.2.1.W Z.2.1.n) p = _
    unfold mqP
    rw [q.2.2.1, q.2.2.2.1]
theorem op_hittingCost (I : Inv v h top x Z S) {p : Nat} (hp2 : p ≤ 1) (w1 w2 : Int32) : PairB v x mL_hittingCost mX11_hittingCost [.int w1, .int w2, .int (nI p)] isJ 7 h top := by
  obtain ⟨z1, hz1, rfl⟩ := w_int w1
  obtain ⟨z2, hz2, rfl⟩ := w_int w2
  obtain ⟨cn, cc, hr, hc⟩ := I.cur
  have K := I.1
  have okz := I.okZ
  have hW := hr.2.1.gd
  have hM := refQ I (fun h0 top0 => c_mHitC (v := v) (h := h0) (m := x + 96) (top := top0) hr hz1 hz2 hp2 (fun c => by
    obtain ⟨i, j, rfl, rfl, hi, hj, hw⟩ := go_nat c
    exact (hit_eq hW (csG_99 hW (tbl_le Z.2.1 cn cc)) hi hj hw).2.1))
  rcases vt_cases Z.2.1 z1 with ⟨i1, rfl, hi1, e1⟩ | ⟨hk1, e1⟩
  rotate_left
  · have e : goT Z.2.1 z1 z2 = 1 := if_neg (by omega)
    rw [e] at hM
    exact mkB (y := 0) I ⟨by omega, by omega, by omega, by omega⟩ (thw I (wE_hittingCost_1 K.1.1 (x_hittingCost_0 K okz.1 hz1 hk1)) (xQ I) (by omega)) hM (isJ_no (by omega))
  rcases vt_cases Z.2.1 z2 with ⟨i2, rfl, hi2, e2⟩ | ⟨hk2, e2⟩
  rotate_left
  · have e : goT Z.2.1 (i1 : Int) z2 = 1 := (if_pos e1).trans (if_neg (by omega))
    rw [e] at hM
    rw [zI_nat] at hM ⊢
    exact mkB (y := 0) I ⟨by omega, by omega, by omega, by omega⟩ (thw I (wE_hittingCost_1 K.1.1 (x_hittingCost_1 K okz.1 hi1 hz2 hk2)) (xQ I) (by omega)) hM (isJ_no (by omega))
  by_cases hw : (rcm Z.2.1.W Z.2.1.n i1).testBit i2 = true
  rotate_left
  · have e : goT Z.2.1 (i1 : Int) (i2 : Int) = 2 := (if_pos e1).trans ((if_pos e2).trans (if_neg hw))
    rw [e] at hM
    rw [zI_nat, zI_nat] at hM ⊢
    have hw2 : (rch Z.2.1.W Z.2.1.n i1).testBit i2 = false := by rw [rch_rcm hi1 hr.2.1.1.1]; exact Bool.eq_false_iff.mpr hw
    exact mkB (y := 0) I ⟨by omega, by omega, by omega, by omega⟩ (thw I (wE_hittingCost_2 K.1.1 (x_hittingCost_2 K okz.1 hi1 hi2 hw2)) (xQ I) (by omega)) hM (isJ_no (by omega))
  · have e : goT Z.2.1 (i1 : Int) (i2 : Int) = 0 := (if_pos e1).trans ((if_pos e2).trans (if_pos hw))
    rw [e] at hM
    rw [zI_nat, zI_nat] at hM ⊢
    have hw2 : (rch Z.2.1.W Z.2.1.n i1).testBit i2 = true := by rw [rch_rcm hi1 hr.2.1.1.1]; exact hw
    have q := hit_eq hW (csG_99 hW (tbl_le Z.2.1 cn cc)) hi1 hi2 hw
    refine mkB I ⟨by omega, by omega, by omega, by omega⟩ (nrm I (wN_hittingCost K.1.1 (c_hitC K okz hr.2.1.okL hc hi1 hi2 hp2 hw2 q.1) (oJ I))) hM (isJ_ok (congrArg lI ?_))
    show mqP Z.2.1.W Z.2.1.n (2 ^ i2) i1 (csG Z.2.1.W (tbl Z.2.1 cn cc) Z.2.1.n) p = _
    unfold mqP
    rw [q.2.2.1, q.2.2.2.1]
theorem op_commuteTime (I : Inv v h top x Z S) {p : Nat} (hp2 : p ≤ 1) (w1 w2 : Int32) : PairB v x mL_commuteTime mX11_commuteTime [.int w1, .int w2, .int (nI p)] isJ 7 h top := by
  obtain ⟨z1, hz1, rfl⟩ := w_int w1
  obtain ⟨z2, hz2, rfl⟩ := w_int w2
  obtain ⟨cn, cc, hr, hc⟩ := I.cur
  have K := I.1
  have okz := I.okZ
  have hW := hr.2.1.gd
  have hM := refQ I (fun h0 top0 => c_mComT (v := v) (h := h0) (m := x + 96) (top := top0) hr hz1 hz2 hp2 (fun c => by
    obtain ⟨i, j, rfl, rfl, hi, hj, hw⟩ := go_nat c
    exact (com_eq hW hi hj hw).2.1))
  rcases vt_cases Z.2.1 z1 with ⟨i1, rfl, hi1, e1⟩ | ⟨hk1, e1⟩
  rotate_left
  · have e : goT Z.2.1 z1 z2 = 1 := if_neg (by omega)
    rw [e] at hM
    exact mkB (y := 0) I ⟨by omega, by omega, by omega, by omega⟩ (thw I (wE_commuteTime_1 K.1.1 (x_commuteTime_0 K okz.1 hz1 hk1)) (xQ I) (by omega)) hM (isJ_no (by omega))
  rcases vt_cases Z.2.1 z2 with ⟨i2, rfl, hi2, e2⟩ | ⟨hk2, e2⟩
  rotate_left
  · have e : goT Z.2.1 (i1 : Int) z2 = 1 := (if_pos e1).trans (if_neg (by omega))
    rw [e] at hM
    rw [zI_nat] at hM ⊢
    exact mkB (y := 0) I ⟨by omega, by omega, by omega, by omega⟩ (thw I (wE_commuteTime_1 K.1.1 (x_commuteTime_1 K okz.1 hi1 hz2 hk2)) (xQ I) (by omega)) hM (isJ_no (by omega))
  by_cases hw : (rcm Z.2.1.W Z.2.1.n i1).testBit i2 = true
  rotate_left
  · have e : goT Z.2.1 (i1 : Int) (i2 : Int) = 2 := (if_pos e1).trans ((if_pos e2).trans (if_neg hw))
    rw [e] at hM
    rw [zI_nat, zI_nat] at hM ⊢
    have hw2 : (rch Z.2.1.W Z.2.1.n i1).testBit i2 = false := by rw [rch_rcm hi1 hr.2.1.1.1]; exact Bool.eq_false_iff.mpr hw
    exact mkB (y := 0) I ⟨by omega, by omega, by omega, by omega⟩ (thw I (wE_commuteTime_2 K.1.1 (x_commuteTime_2 K okz.1 hi1 hi2 hw2)) (xQ I) (by omega)) hM (isJ_no (by omega))
  · have e : goT Z.2.1 (i1 : Int) (i2 : Int) = 0 := (if_pos e1).trans ((if_pos e2).trans (if_pos hw))
    rw [e] at hM
    rw [zI_nat, zI_nat] at hM ⊢
    have hw2 : (rch Z.2.1.W Z.2.1.n i1).testBit i2 = true := by rw [rch_rcm hi1 hr.2.1.1.1]; exact hw
    have q := com_eq hW hi1 hi2 hw
    refine mkB I ⟨by omega, by omega, by omega, by omega⟩ (nrm I (wN_commuteTime K.1.1 (c_comm K okz hi1 hi2 hp2 hw2 q.1) (oJ I))) hM (isJ_ok (congrArg lI ?_))
    show fp p (frA (cmA Z.2.1.W Z.2.1.n i1 i2) (cmB Z.2.1.W Z.2.1.n i1 i2)) (frB (cmA Z.2.1.W Z.2.1.n i1 i2) (cmB Z.2.1.W Z.2.1.n i1 i2)) = _
    rw [q.2.2.1, q.2.2.2.1]
theorem op_resistance (I : Inv v h top x Z S) {p : Nat} (hp2 : p ≤ 1) (w1 w2 : Int32) : PairB v x mL_resistance mX11_resistance [.int w1, .int w2, .int (nI p)] isJ 7 h top := by
  obtain ⟨z1, hz1, rfl⟩ := w_int w1
  obtain ⟨z2, hz2, rfl⟩ := w_int w2
  obtain ⟨cn, cc, hr, hc⟩ := I.cur
  have K := I.1
  have okz := I.okZ
  have hW := hr.2.1.gd
  have hM := refQ I (fun h0 top0 => c_mResi (v := v) (h := h0) (m := x + 96) (top := top0) hr hz1 hz2 hp2 (fun c => by
    obtain ⟨i, j, rfl, rfl, hi, hj, hw⟩ := go_nat c
    exact ⟨(com_eq hW hi hj hw).2.1, (res_eq hW hi hj hw).2.1⟩))
  rcases vt_cases Z.2.1 z1 with ⟨i1, rfl, hi1, e1⟩ | ⟨hk1, e1⟩
  rotate_left
  · have e : goT Z.2.1 z1 z2 = 1 := if_neg (by omega)
    rw [e] at hM
    exact mkB (y := 0) I ⟨by omega, by omega, by omega, by omega⟩ (thw I (wE_resistance_1 K.1.1 (x_resistance_0 K okz.1 hz1 hk1)) (xQ I) (by omega)) hM (isJ_no (by omega))
  rcases vt_cases Z.2.1 z2 with ⟨i2, rfl, hi2, e2⟩ | ⟨hk2, e2⟩
  rotate_left
  · have e : goT Z.2.1 (i1 : Int) z2 = 1 := (if_pos e1).trans (if_neg (by omega))
    rw [e] at hM
    rw [zI_nat] at hM ⊢
    exact mkB (y := 0) I ⟨by omega, by omega, by omega, by omega⟩ (thw I (wE_resistance_1 K.1.1 (x_resistance_1 K okz.1 hi1 hz2 hk2)) (xQ I) (by omega)) hM (isJ_no (by omega))
  by_cases hw : (rcm Z.2.1.W Z.2.1.n i1).testBit i2 = true
  rotate_left
  · have e : goT Z.2.1 (i1 : Int) (i2 : Int) = 2 := (if_pos e1).trans ((if_pos e2).trans (if_neg hw))
    rw [e] at hM
    rw [zI_nat, zI_nat] at hM ⊢
    have hw2 : (rch Z.2.1.W Z.2.1.n i1).testBit i2 = false := by rw [rch_rcm hi1 hr.2.1.1.1]; exact Bool.eq_false_iff.mpr hw
    exact mkB (y := 0) I ⟨by omega, by omega, by omega, by omega⟩ (thw I (wE_resistance_2 K.1.1 (x_resistance_2 K okz.1 hi1 hi2 hw2)) (xQ I) (by omega)) hM (isJ_no (by omega))
  · have e : goT Z.2.1 (i1 : Int) (i2 : Int) = 0 := (if_pos e1).trans ((if_pos e2).trans (if_pos hw))
    rw [e] at hM
    rw [zI_nat, zI_nat] at hM ⊢
    have hw2 : (rch Z.2.1.W Z.2.1.n i1).testBit i2 = true := by rw [rch_rcm hi1 hr.2.1.1.1]; exact hw
    have q := res_eq hW hi1 hi2 hw
    refine mkB I ⟨by omega, by omega, by omega, by omega⟩ (nrm I (wN_resistance K.1.1 (c_resi K okz hi1 hi2 hp2 hw2 (com_eq hW hi1 hi2 hw).1 q.1) (oJ I))) hM (isJ_ok (congrArg lI ?_))
    show fp p (rqA Z.2.1.W Z.2.1.n i1 i2) (rqB Z.2.1.W Z.2.1.n i1 i2) = _
    rw [q.2.2.1, q.2.2.2]
theorem op_absorption (I : Inv v h top x Z S) {p : Nat} (hp2 : p ≤ 1) (w1 w2 : Int32) : PairB v x mL_absorption mX11_absorption [.int w1, .int w2, .int (nI p)] isJ 6 h top := by
  obtain ⟨z1, hz1, rfl⟩ := w_int w1
  obtain ⟨z2, hz2, rfl⟩ := w_int w2
  obtain ⟨cn, cc, hr, hc⟩ := I.cur
  have K := I.1
  have okz := I.okZ
  have hW := hr.2.1.gd
  have hM := refQ I (fun h0 top0 => c_mAbsn (v := v) (h := h0) (m := x + 96) (top := top0) hr hz1 hz2 hp2 (fun c => by
    rcases vt_cases Z.2.1 z1 with ⟨i, rfl, hi, e1⟩ | ⟨hk1, e1⟩
    rotate_left
    · unfold aqT at c
      rw [if_neg (by omega)] at c
      omega
    rcases vt_cases Z.2.1 z2 with ⟨j, rfl, hj, e2⟩ | ⟨hk2, e2⟩
    rotate_left
    · unfold aqT at c
      rw [if_pos e1, if_neg (by omega)] at c
      omega
    unfold aqT at c
    rw [if_pos e1, if_pos e2] at c
    by_cases c1 : Z.2.1.a.testBit (j : Int).toNat = true
    · rw [if_pos c1] at c
      by_cases c2 : rcm Z.2.1.W Z.2.1.n (i : Int).toNat &&& Z.2.1.a ≠ 0
      · exact (abs_eq hW hi hj c2).2.1
      · rw [if_neg c2] at c
        omega
    · rw [if_neg c1] at c
      omega))
  rcases vt_cases Z.2.1 z1 with ⟨i1, rfl, hi1, e1⟩ | ⟨hk1, e1⟩
  rotate_left
  · have e : aqT Z.2.1 z1 z2 = 1 := if_neg (by omega)
    rw [e] at hM
    exact mkB (y := 0) I ⟨by omega, by omega, by omega, by omega⟩ (thw I (wE_absorption_1 K.1.1 (x_absorption_0 K okz.1 hz1 hk1)) (xQ I) (by omega)) hM (isJ_no (by omega))
  rcases vt_cases Z.2.1 z2 with ⟨i2, rfl, hi2, e2⟩ | ⟨hk2, e2⟩
  rotate_left
  · have e : aqT Z.2.1 (i1 : Int) z2 = 1 := (if_pos e1).trans (if_neg (by omega))
    rw [e] at hM
    rw [zI_nat] at hM ⊢
    exact mkB (y := 0) I ⟨by omega, by omega, by omega, by omega⟩ (thw I (wE_absorption_1 K.1.1 (x_absorption_1 K okz.1 hi1 hz2 hk2)) (xQ I) (by omega)) hM (isJ_no (by omega))
  by_cases ha : Z.2.1.a.testBit i2 = true
  rotate_left
  · have e : aqT Z.2.1 (i1 : Int) (i2 : Int) = 2 := (if_pos e1).trans ((if_pos e2).trans (if_neg ha))
    rw [e] at hM
    rw [zI_nat, zI_nat] at hM ⊢
    exact mkB (y := 0) I ⟨by omega, by omega, by omega, by omega⟩ (thw I (wE_absorption_2 K.1.1 (x_absorption_2 K okz.1 hi1 hi2 (Bool.eq_false_iff.mpr ha))) (xQ I) (by omega)) hM (isJ_no (by omega))
  by_cases hw : rcm Z.2.1.W Z.2.1.n i1 &&& Z.2.1.a ≠ 0
  rotate_left
  · have e : aqT Z.2.1 (i1 : Int) (i2 : Int) = 3 := (if_pos e1).trans ((if_pos e2).trans ((if_pos ha).trans (if_neg hw)))
    rw [e] at hM
    rw [zI_nat, zI_nat] at hM ⊢
    have hw2 : rch Z.2.1.W Z.2.1.n i1 &&& Z.2.1.a = 0 := by rw [rch_rcm hi1 hr.2.1.1.1]; exact Classical.not_not.mp hw
    exact mkB (y := 0) I ⟨by omega, by omega, by omega, by omega⟩ (thw I (wE_absorption_3 K.1.1 (x_absorption_3 K okz.1 hi1 hi2 ha hw2)) (xQ I) (by omega)) hM (isJ_no (by omega))
  · have e : aqT Z.2.1 (i1 : Int) (i2 : Int) = 0 := (if_pos e1).trans ((if_pos e2).trans ((if_pos ha).trans (if_pos hw)))
    rw [e] at hM
    rw [zI_nat, zI_nat] at hM ⊢
    have hw2 : rch Z.2.1.W Z.2.1.n i1 &&& Z.2.1.a ≠ 0 := by rw [rch_rcm hi1 hr.2.1.1.1]; exact hw
    have q := abs_eq hW hi1 hi2 hw
    refine mkB I ⟨by omega, by omega, by omega, by omega⟩ (nrm I (wN_absorption K.1.1 (c_absn K okz hi1 hi2 hp2 ha hw2 q.1) (oJ I))) hM (isJ_ok (congrArg lI ?_))
    show fp p (frA (aqN Z.2.1.W Z.2.1.n Z.2.1.a i1 i2) (aqD Z.2.1.W Z.2.1.n Z.2.1.a i1 i2)) (frB (aqN Z.2.1.W Z.2.1.n Z.2.1.a i1 i2) (aqD Z.2.1.W Z.2.1.n Z.2.1.a i1 i2)) = _
    rw [q.2.2.1, q.2.2.2]
theorem op_absorptionTime (I : Inv v h top x Z S) {p : Nat} (hp2 : p ≤ 1) (w1 : Int32) : PairB v x mL_absorptionTime mX11_absorptionTime [.int w1, .int (nI p)] isJ 6 h top := by
  obtain ⟨z1, hz1, rfl⟩ := w_int w1
  obtain ⟨cn, cc, hr, hc⟩ := I.cur
  have K := I.1
  have okz := I.okZ
  have hW := hr.2.1.gd
  have hM := refQ I (fun h0 top0 => c_mAbsT (v := v) (h := h0) (m := x + 96) (top := top0) hr hz1 hp2 (fun c => by
    rcases vt_cases Z.2.1 z1 with ⟨i, rfl, hi, e1⟩ | ⟨hk1, e1⟩
    rotate_left
    · unfold atT at c
      rw [if_neg (by omega)] at c
      omega
    unfold atT at c
    rw [if_pos e1] at c
    by_cases c2 : rcm Z.2.1.W Z.2.1.n (i : Int).toNat &&& Z.2.1.a ≠ 0
    · exact (abt_eq hW hi c2).2.1
    · rw [if_neg c2] at c
      omega))
  rcases vt_cases Z.2.1 z1 with ⟨i1, rfl, hi1, e1⟩ | ⟨hk1, e1⟩
  rotate_left
  · have e : atT Z.2.1 z1 = 1 := if_neg (by omega)
    rw [e] at hM
    exact mkB (y := 0) I ⟨by omega, by omega, by omega, by omega⟩ (thw I (wE_absorptionTime_1 K.1.1 (x_absorptionTime_0 K okz.1 hz1 hk1)) (xQ I) (by omega)) hM (isJ_no (by omega))
  by_cases hw : rcm Z.2.1.W Z.2.1.n i1 &&& Z.2.1.a ≠ 0
  rotate_left
  · have e : atT Z.2.1 (i1 : Int) = 2 := (if_pos e1).trans (if_neg hw)
    rw [e] at hM
    rw [zI_nat] at hM ⊢
    have hw2 : rch Z.2.1.W Z.2.1.n i1 &&& Z.2.1.a = 0 := by rw [rch_rcm hi1 hr.2.1.1.1]; exact Classical.not_not.mp hw
    exact mkB (y := 0) I ⟨by omega, by omega, by omega, by omega⟩ (thw I (wE_absorptionTime_2 K.1.1 (x_absorptionTime_1 K okz.1 hi1 hw2)) (xQ I) (by omega)) hM (isJ_no (by omega))
  · have e : atT Z.2.1 (i1 : Int) = 0 := (if_pos e1).trans (if_pos hw)
    rw [e] at hM
    rw [zI_nat] at hM ⊢
    have hw2 : rch Z.2.1.W Z.2.1.n i1 &&& Z.2.1.a ≠ 0 := by rw [rch_rcm hi1 hr.2.1.1.1]; exact hw
    have q := abt_eq hW hi1 hw
    refine mkB I ⟨by omega, by omega, by omega, by omega⟩ (nrm I (wN_absorptionTime K.1.1 (c_absT K okz hi1 hp2 hw2 q.1) (oJ I))) hM (isJ_ok (congrArg lI ?_))
    show mqP Z.2.1.W Z.2.1.n Z.2.1.a i1 (stG Z.2.1.W Z.2.1.n) p = _
    unfold mqP
    rw [q.2.2.1, q.2.2.2]
theorem op_edge (I : Inv v h top x Z S) (w1 w2 : Int32) : PairB v x mL_edge mX11_edge [.int w1, .int w2] isI 4 h top := by
  obtain ⟨z1, hz1, rfl⟩ := w_int w1
  obtain ⟨z2, hz2, rfl⟩ := w_int w2
  obtain ⟨cn, cc, hr, hc⟩ := I.cur
  have K := I.1
  have okz := I.okZ
  have hW := hr.2.1.gd
  have hM := refQ I (fun h0 top0 => c_mEdge (v := v) (h := h0) (m := x + 96) (top := top0) hr hz1 hz2)
  by_cases c1 : 0 ≤ z1 ∧ z1 < Z.2.1.e
  rotate_left
  · have e : edT Z.2.1 z1 z2 = 1 := if_neg c1
    rw [e] at hM
    exact mkB (y := 0) I ⟨by omega, by omega, by omega, by omega⟩ (thw I (wE_edge_1 K.1.1 (x_edge_0 K okz.1 hz1 (by omega))) (xQ I) (by omega)) hM (isI_no (by omega))
  obtain ⟨i, rfl⟩ : ∃ i : Nat, z1 = i := ⟨z1.toNat, by omega⟩
  have hi : i < Z.2.1.e := by omega
  by_cases c2 : 0 ≤ z2 ∧ z2 ≤ 4
  rotate_left
  · have e : edT Z.2.1 (i : Int) z2 = 2 := (if_pos c1).trans (if_neg c2)
    rw [e] at hM
    rw [zI_nat] at hM ⊢
    exact mkB (y := 0) I ⟨by omega, by omega, by omega, by omega⟩ (thw I (wE_edge_2 K.1.1 (x_edge_1 K okz.1 hi hz2 (by omega))) (xQ I) (by omega)) hM (isI_no (by omega))
  · have e : edT Z.2.1 (i : Int) z2 = 0 := (if_pos c1).trans (if_pos c2)
    rw [e] at hM
    obtain ⟨j, rfl⟩ : ∃ j : Nat, z2 = j := ⟨z2.toNat, by omega⟩
    rw [zI_nat, zI_nat] at hM ⊢
    exact mkB I ⟨by omega, by omega, by omega, by omega⟩ (nrm I (wN_edge K.1.1 (c_edgeQ K okz hr.2.1.okL hc hi (by omega)) (oJ I))) hM (isI_ok rfl)
theorem op_walk (I : Inv v h top x Z S) (w1 w2 w3 w4 : Int32) : PairB v x mL_walk mX11_walk [.int w1, .int w2, .int w3, .int w4] isI 6 h top := by
  obtain ⟨z1, hz1, rfl⟩ := w_int w1
  obtain ⟨z2, hz2, rfl⟩ := w_int w2
  obtain ⟨z3, hz3, rfl⟩ := w_int w3
  obtain ⟨z4, hz4, rfl⟩ := w_int w4
  obtain ⟨cn, cc, hr, hc⟩ := I.cur
  have K := I.1
  have okz := I.okZ
  have hW := hr.2.1.gd
  have hM := refQ I (fun h0 top0 => c_mWalk (v := v) (h := h0) (m := x + 96) (top := top0) hr hz1 hz2 hz3 hz4)
  rcases vt_cases Z.2.1 z1 with ⟨i1, rfl, hi1, e1⟩ | ⟨hk1, e1⟩
  rotate_left
  · have e : wkT Z.2.1 z1 z2 z3 z4 = 1 := if_neg (by omega)
    rw [e] at hM
    exact mkB (y := 0) I ⟨by omega, by omega, by omega, by omega⟩ (thw I (wE_walk_1 K.1.1 (x_walk_0 K okz.1 hz1 hk1)) (xQ I) (by omega)) hM (isI_no (by omega))
  by_cases c2 : 0 ≤ z2 ∧ z2 ≤ 1000
  rotate_left
  · have e : wkT Z.2.1 (i1 : Int) z2 z3 z4 = 2 := (if_pos e1).trans (if_neg (by omega))
    rw [e] at hM
    rw [zI_nat] at hM ⊢
    exact mkB (y := 0) I ⟨by omega, by omega, by omega, by omega⟩ (thw I (wE_walk_2 K.1.1 (x_walk_1 K okz.1 hi1 hz2 (by omega))) (xQ I) (by omega)) hM (isI_no (by omega))
  obtain ⟨i2, rfl⟩ : ∃ i : Nat, z2 = i := ⟨z2.toNat, by omega⟩
  by_cases c3 : 0 ≤ z3
  rotate_left
  · have e : wkT Z.2.1 (i1 : Int) (i2 : Int) z3 z4 = 2 := (if_pos e1).trans (if_neg (by omega))
    rw [e] at hM
    rw [zI_nat, zI_nat] at hM ⊢
    exact mkB (y := 0) I ⟨by omega, by omega, by omega, by omega⟩ (thw I (wE_walk_2 K.1.1 (x_walk_2 K okz.1 hi1 (by omega) hz3 (by omega))) (xQ I) (by omega)) hM (isI_no (by omega))
  obtain ⟨i3, rfl⟩ : ∃ i : Nat, z3 = i := ⟨z3.toNat, by omega⟩
  have h3 : i3 < 2147483648 := by have := hz3.2; omega
  by_cases c4 : 0 ≤ z4 ∧ z4 ≤ 3
  rotate_left
  · have e : wkT Z.2.1 (i1 : Int) (i2 : Int) (i3 : Int) z4 = 2 := (if_pos e1).trans (if_neg (by omega))
    rw [e] at hM
    rw [zI_nat, zI_nat, zI_nat] at hM ⊢
    exact mkB (y := 0) I ⟨by omega, by omega, by omega, by omega⟩ (thw I (wE_walk_2 K.1.1 (x_walk_3 K okz.1 hi1 (by omega) h3 hz4 (by omega))) (xQ I) (by omega)) hM (isI_no (by omega))
  · obtain ⟨i4, rfl⟩ : ∃ i : Nat, z4 = i := ⟨z4.toNat, by omega⟩
    have e : wkT Z.2.1 (i1 : Int) (i2 : Int) (i3 : Int) (i4 : Int) = 0 := (if_pos e1).trans (if_pos ⟨c2, c3, c4⟩)
    rw [e] at hM
    rw [zI_nat, zI_nat, zI_nat, zI_nat] at hM ⊢
    exact mkB I ⟨by omega, by omega, by omega, by omega⟩ (nrm I (wN_walk K.1.1 (c_walkQ K okz hr.2.1.okL hc hi1 (by omega) h3 (by omega)) (oJ I))) hM (isI_ok rfl)
theorem op_lumped (I : Inv v h top x Z S) {p : Nat} (hp2 : p ≤ 1) (w1 w2 : Int32) : PairB v x mL_lumped mX11_lumped [.int w1, .int w2, .int (nI p)] isI 7 h top := by
  obtain ⟨z1, hz1, rfl⟩ := w_int w1
  obtain ⟨z2, hz2, rfl⟩ := w_int w2
  obtain ⟨cn, cc, hr, hc⟩ := I.cur
  have K := I.1
  have okz := I.okZ
  have hW := hr.2.1.gd
  have can := I.can
  have hb := can.bk
  have hb6 := can.b6 okz.1.1
  have hex := can.ex
  have hB := can.lt
  have hM := refQ I (fun h0 top0 => c_mLumped (v := v) (h := h0) (m := x + 96) (top := top0) hr hb hb6 hex hz1 hz2 hp2)
  by_cases c1 : 0 ≤ z1 ∧ z1 < Z.2.1.b
  rotate_left
  · have e : abT Z.2.1 z1 z2 = 1 := if_neg (fun q => c1 q.1)
    rw [e] at hM
    exact mkB (y := 0) I ⟨by omega, by omega, by omega, by omega⟩ (thw I (wE_lumped_1 K.1.1 (x_lumped_0 K okz.1 hb6 hz1 (by omega))) (xQ I) (by omega)) hM (isI_no (by omega))
  obtain ⟨i, rfl⟩ : ∃ i : Nat, z1 = i := ⟨z1.toNat, by omega⟩
  have hi : i < Z.2.1.b := by omega
  by_cases c2 : 0 ≤ z2 ∧ z2 < Z.2.1.b
  rotate_left
  · have e : abT Z.2.1 (i : Int) z2 = 1 := if_neg (fun q => c2 q.2)
    rw [e] at hM
    rw [zI_nat] at hM ⊢
    exact mkB (y := 0) I ⟨by omega, by omega, by omega, by omega⟩ (thw I (wE_lumped_1 K.1.1 (x_lumped_1 K okz.1 hb6 hi hz2 (by omega))) (xQ I) (by omega)) hM (isI_no (by omega))
  obtain ⟨j, rfl⟩ : ∃ j : Nat, z2 = j := ⟨z2.toNat, by omega⟩
  have hj : j < Z.2.1.b := by omega
  by_cases hpt : ptB Z.2.1 = false
  rotate_left
  · have e : abT Z.2.1 (i : Int) (j : Int) = 2 := (if_pos ⟨c1, c2⟩).trans (if_neg hpt)
    rw [e] at hM
    rw [zI_nat, zI_nat] at hM ⊢
    exact mkB (y := 0) I ⟨by omega, by omega, by omega, by omega⟩ (thw I (wE_lumped_2 K.1.1 (x_lumped_2 K okz.1 hb6 hi hj (Bool.of_not_eq_false hpt))) (xQ I) (by omega)) hM (isI_no (by omega))
  obtain ⟨f1, f2⟩ := fsM_lt (hex i hi)
  have ea : abT Z.2.1 (i : Int) (j : Int) = 0 := (if_pos ⟨c1, c2⟩).trans (if_pos hpt)
  rw [ea] at hM
  rw [zI_nat, zI_nat] at hM ⊢
  have q := lst_eq hW hb6 hB (lum_of hpt) f1 hj
  rw [f2] at q
  refine mkB I ⟨by omega, by omega, by omega, by omega⟩ (nrm I (wN_lumped K.1.1 (c_lumpedQ K okz hB hi hj hp2 hpt) (oJ I))) hM (isI_ok (congrArg zI ?_))
  show fp p (frA (tbM Z.2.1.W Z.2.1.B Z.2.1.n (fsM Z.2.1 i) j : Nat) (byM Z.2.1.W Z.2.1.n (fsM Z.2.1 i) : Nat)) (frB (tbM Z.2.1.W Z.2.1.B Z.2.1.n (fsM Z.2.1 i) j : Nat) (byM Z.2.1.W Z.2.1.n (fsM Z.2.1 i) : Nat)) = _
  rw [q.1, q.2]
theorem op_lumpedTime (I : Inv v h top x Z S) {p : Nat} (hp2 : p ≤ 1) (w1 w2 : Int32) : PairB v x mL_lumpedTime mX11_lumpedTime [.int w1, .int w2, .int (nI p)] isJ 7 h top := by
  obtain ⟨z1, hz1, rfl⟩ := w_int w1
  obtain ⟨z2, hz2, rfl⟩ := w_int w2
  obtain ⟨cn, cc, hr, hc⟩ := I.cur
  have K := I.1
  have okz := I.okZ
  have hW := hr.2.1.gd
  have can := I.can
  have hb := can.bk
  have hb6 := can.b6 okz.1.1
  have hex := can.ex
  have hB := can.lt
  have hM := refQ I (fun h0 top0 => c_mLumpT (v := v) (h := h0) (m := x + 96) (top := top0) hr hb hb6 hex hz1 hz2 hp2 (fun c => by
    by_cases ca : abT Z.2.1 z1 z2 = 0
    rotate_left
    · unfold ltT at c
      rw [if_neg ca] at c
      exact absurd c ca
    obtain ⟨⟨i, j, rfl, rfl, hi, hj⟩, hpt⟩ := ab_nat ca
    unfold ltT at c
    rw [if_pos ca] at c
    obtain ⟨f1, f2⟩ := fsM_lt (hex i hi)
    by_cases cw : rcm Z.2.1.W Z.2.1.n (fsM Z.2.1 (i : Int).toNat) &&& stM Z.2.1.B (j : Int).toNat Z.2.1.n ≠ 0
    · exact (lmt_ok hr.2.1 can hpt hi hj cw).1
    · rw [if_neg cw] at c
      omega))
  by_cases c1 : 0 ≤ z1 ∧ z1 < Z.2.1.b
  rotate_left
  · have e0 : abT Z.2.1 z1 z2 = 1 := if_neg (fun q => c1 q.1)
    have e : ltT Z.2.1 z1 z2 = 1 := (if_neg (by omega)).trans e0
    rw [e] at hM
    exact mkB (y := 0) I ⟨by omega, by omega, by omega, by omega⟩ (thw I (wE_lumpedTime_1 K.1.1 (x_lumpedTime_0 K okz.1 hb6 hz1 (by omega))) (xQ I) (by omega)) hM (isJ_no (by omega))
  obtain ⟨i, rfl⟩ : ∃ i : Nat, z1 = i := ⟨z1.toNat, by omega⟩
  have hi : i < Z.2.1.b := by omega
  by_cases c2 : 0 ≤ z2 ∧ z2 < Z.2.1.b
  rotate_left
  · have e0 : abT Z.2.1 (i : Int) z2 = 1 := if_neg (fun q => c2 q.2)
    have e : ltT Z.2.1 (i : Int) z2 = 1 := (if_neg (by omega)).trans e0
    rw [e] at hM
    rw [zI_nat] at hM ⊢
    exact mkB (y := 0) I ⟨by omega, by omega, by omega, by omega⟩ (thw I (wE_lumpedTime_1 K.1.1 (x_lumpedTime_1 K okz.1 hb6 hi hz2 (by omega))) (xQ I) (by omega)) hM (isJ_no (by omega))
  obtain ⟨j, rfl⟩ : ∃ j : Nat, z2 = j := ⟨z2.toNat, by omega⟩
  have hj : j < Z.2.1.b := by omega
  by_cases hpt : ptB Z.2.1 = false
  rotate_left
  · have e0 : abT Z.2.1 (i : Int) (j : Int) = 2 := (if_pos ⟨c1, c2⟩).trans (if_neg hpt)
    have e : ltT Z.2.1 (i : Int) (j : Int) = 2 := (if_neg (by omega)).trans e0
    rw [e] at hM
    rw [zI_nat, zI_nat] at hM ⊢
    exact mkB (y := 0) I ⟨by omega, by omega, by omega, by omega⟩ (thw I (wE_lumpedTime_2 K.1.1 (x_lumpedTime_2 K okz.1 hb6 hi hj (Bool.of_not_eq_false hpt))) (xQ I) (by omega)) hM (isJ_no (by omega))
  obtain ⟨f1, f2⟩ := fsM_lt (hex i hi)
  have ea : abT Z.2.1 (i : Int) (j : Int) = 0 := (if_pos ⟨c1, c2⟩).trans (if_pos hpt)
  by_cases hw : rcm Z.2.1.W Z.2.1.n (fsM Z.2.1 i) &&& stM Z.2.1.B j Z.2.1.n ≠ 0
  rotate_left
  · have e : ltT Z.2.1 (i : Int) (j : Int) = 2 := (if_pos ea).trans (if_neg hw)
    rw [e] at hM
    rw [zI_nat, zI_nat] at hM ⊢
    have hw2 := lmt_no hr.2.1 can hpt hi hj (Classical.not_not.mp hw)
    exact mkB (y := 0) I ⟨by omega, by omega, by omega, by omega⟩ (thw I (wE_lumpedTime_2 K.1.1 (x_lumpedTime_3 K okz hB hi hj hp2 hpt hw2)) (fun _ _ q => q) (by omega)) hM (isJ_no (by omega))
  · have e : ltT Z.2.1 (i : Int) (j : Int) = 0 := (if_pos ea).trans (if_pos hw)
    rw [e] at hM
    rw [zI_nat, zI_nat] at hM ⊢
    obtain ⟨q1, q2, q3, q4, q5⟩ := lmt_ok hr.2.1 can hpt hi hj hw
    refine mkB I ⟨by omega, by omega, by omega, by omega⟩ (nrm I (wN_lumpedTime K.1.1 (c_lumpTQ K okz hB hi hj hp2 hpt q2 q3) (oJ I))) hM (isJ_ok (congrArg lI ?_))
    show mqP Z.2.1.W Z.2.1.n (stM Z.2.1.B j Z.2.1.n) (fsM Z.2.1 i) (stG Z.2.1.W Z.2.1.n) p = _
    unfold mqP
    rw [q4, q5]
end

