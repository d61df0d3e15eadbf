/-! ===== the refused calls ===== -/
section
variable {v : Ev} {h : Hp} {top x : Nat} {Z : CS}
theorem x_edge_0 {w1 : Int32} (K : okX v h x Z) (okg : okG Z.2.1) {z : Int} (hz : inI z) (hk : z < 0 ∨ (Z.2.1.e : Int) ≤ z) : Cal v mX10_edge 7 1 6 [.ref x, .int (zI z), .int w1] h top fX (xX iobE h top) := by
  have hx := K.1.1
  have hg := K.1.2.1
  obtain ⟨L0, gn0, fn0, hp0, -⟩ := K.2.1.2.1
  refine Cal.ofJ (by decide +kernel) rfl (Nat.le_of_ble_eq_true rfl) fun hz0 => ?_
  refine r_ls [some (.ref x), some (.int (zI z)), some (.int w1), none, none] rfl ?_
  refine r_aload_n (pc := 0) (i := 0) (tX10_edge.at 0 rfl) rfl rfl ?_
  refine r_iload_n (pc := 1) (i := 1) (tX10_edge.at 1 rfl) rfl rfl ?_
  refine r_callVX (M' := mX10_requireEdge) (pc := 2) (tX10_edge.at 2 rfl) ml_X10_130 rfl rfl mw_X10_requireEdge ⟨by decide, by decide⟩ (hx) rfl rfl (c_reqE1 hx hg hz hk (by have := okg.2.1; omega)) rfl rfl (Nat.le_of_ble_eq_true rfl) (Nat.le_of_ble_eq_true rfl) (Nat.le_of_ble_eq_true rfl) (Nat.le_of_ble_eq_true rfl) (Nat.le_of_ble_eq_true rfl) (fun rv h2 top2 z => z.elim) (fun E h2 top2 z => ?_)
  exact z
theorem x_edge_1 (K : okX v h x Z) (okg : okG Z.2.1) {i : Nat} (hi : i < Z.2.1.e) {z : Int} (hz : inI z) (hk : z < 0 ∨ 4 < z) : Cal v mX10_edge 7 1 6 [.ref x, .int (nI i), .int (zI z)] h top fX (xX iaE h top) := by
  have hx := K.1.1
  have hg := K.1.2.1
  obtain ⟨L0, gn0, fn0, hp0, -⟩ := K.2.1.2.1
  refine Cal.ofJ (by decide +kernel) rfl (Nat.le_of_ble_eq_true rfl) fun hz0 => ?_
  refine r_ls [some (.ref x), some (.int (nI i)), some (.int (zI z)), none, none] rfl ?_
  refine r_aload_n (pc := 0) (i := 0) (tX10_edge.at 0 rfl) rfl rfl ?_
  refine r_iload_n (pc := 1) (i := 1) (tX10_edge.at 1 rfl) rfl rfl ?_
  refine r_callV (M' := mX10_requireEdge) (pc := 2) (tX10_edge.at 2 rfl) ml_X10_130 rfl mw_X10_requireEdge ⟨by decide, by decide⟩ (hx) rfl rfl (c_reqE0 hx hg hi (by have := okg.2.1; omega)) rfl rfl (Nat.le_of_ble_eq_true rfl) (Nat.le_of_ble_eq_true rfl) (Nat.le_of_ble_eq_true rfl) ?_
  rintro _ _ _ ⟨rfl, rfl, rfl⟩
  have hz1 := hz.1
  have hz2 := hz.2
  refine r_iload_n (pc := 5) (i := 2) (tX10_edge.at 3 rfl) rfl rfl ?_
  refine r_if_ltZ (pc := 6) 14 (tX10_edge.at 4 rfl) (by decide) hz (fun c => ?_) (fun c => ?_)
  · refine r_throw 10 (pc := 14) rfl xw_X10_96 rfl (tX10_edge.at 8 rfl) (tX10_edge.at 9 rfl) (tX10_edge.at 10 rfl) (tX10_edge.at 11 rfl) (tX10_edge.at 12 rfl) (Nat.le_of_ble_eq_true rfl) (Nat.le_of_ble_eq_true rfl) (Nat.le_of_ble_eq_true rfl) (Nat.le_of_ble_eq_true rfl) (Nat.le_of_ble_eq_true rfl) (Nat.le_of_ble_eq_true rfl) (fun top2 ht2 => ?_)
    exact ⟨rfl, rfl, ht2⟩
  · refine r_iload_n (pc := 9) (i := 2) (tX10_edge.at 5 rfl) rfl rfl ?_
    refine r_iconst (pc := 10) (w := nI 4) (tX10_edge.at 6 rfl) (by decide) ?_
    rw [show nI 4 = zI 4 from rfl]
    refine r_icmp_leZ (pc := 11) 24 (tX10_edge.at 7 rfl) (by decide) ⟨by omega, by omega⟩ ⟨by omega, by omega⟩ (fun c => by omega) (fun _ => ?_)
    refine r_throw 10 (pc := 14) rfl xw_X10_96 rfl (tX10_edge.at 8 rfl) (tX10_edge.at 9 rfl) (tX10_edge.at 10 rfl) (tX10_edge.at 11 rfl) (tX10_edge.at 12 rfl) (Nat.le_of_ble_eq_true rfl) (Nat.le_of_ble_eq_true rfl) (Nat.le_of_ble_eq_true rfl) (Nat.le_of_ble_eq_true rfl) (Nat.le_of_ble_eq_true rfl) (Nat.le_of_ble_eq_true rfl) (fun top2 ht2 => ?_)
    exact ⟨rfl, rfl, ht2⟩
theorem x_degree_0 (K : okX v h x Z) (okg : okG Z.2.1) {z : Int} (hz : inI z) (hk : z < 0 ∨ (Z.2.1.n : Int) ≤ z) : Cal v mX10_degree 7 1 6 [.ref x, .int (zI z)] h top fX (xX iobE h top) := by
  have hx := K.1.1
  have hg := K.1.2.1
  obtain ⟨L0, gn0, fn0, hp0, -⟩ := K.2.1.2.1
  refine Cal.ofJ (by decide +kernel) rfl (Nat.le_of_ble_eq_true rfl) fun hz0 => ?_
  refine r_ls [some (.ref x), some (.int (zI z))] rfl ?_
  refine r_aload_n (pc := 0) (i := 0) (tX10_degree.at 0 rfl) rfl rfl ?_
  refine r_iload_n (pc := 1) (i := 1) (tX10_degree.at 1 rfl) rfl rfl ?_
  refine r_callVX (M' := mX10_requireVertex) (pc := 2) (tX10_degree.at 2 rfl) ml_X10_150 rfl rfl mw_X10_requireVertex ⟨by decide, by decide⟩ (hx) rfl rfl (c_reqV1 hx hg hz hk (by have := okg.1; omega)) rfl rfl (Nat.le_of_ble_eq_true rfl) (Nat.le_of_ble_eq_true rfl) (Nat.le_of_ble_eq_true rfl) (Nat.le_of_ble_eq_true rfl) (Nat.le_of_ble_eq_true rfl) (fun rv h2 top2 z => z.elim) (fun E h2 top2 z => ?_)
  exact z
theorem x_reachable_0 (K : okX v h x Z) (okg : okG Z.2.1) {z : Int} (hz : inI z) (hk : z < 0 ∨ (Z.2.1.n : Int) ≤ z) : Cal v mX10_reachable 7 1 6 [.ref x, .int (zI z)] h top fX (xX iobE h top) := by
  have hx := K.1.1
  have hg := K.1.2.1
  obtain ⟨L0, gn0, fn0, hp0, -⟩ := K.2.1.2.1
  refine Cal.ofJ (by decide +kernel) rfl (Nat.le_of_ble_eq_true rfl) fun hz0 => ?_
  refine r_ls [some (.ref x), some (.int (zI z))] rfl ?_
  refine r_aload_n (pc := 0) (i := 0) (tX10_reachable.at 0 rfl) rfl rfl ?_
  refine r_iload_n (pc := 1) (i := 1) (tX10_reachable.at 1 rfl) rfl rfl ?_
  refine r_callVX (M' := mX10_requireVertex) (pc := 2) (tX10_reachable.at 2 rfl) ml_X10_150 rfl rfl mw_X10_requireVertex ⟨by decide, by decide⟩ (hx) rfl rfl (c_reqV1 hx hg hz hk (by have := okg.1; omega)) rfl rfl (Nat.le_of_ble_eq_true rfl) (Nat.le_of_ble_eq_true rfl) (Nat.le_of_ble_eq_true rfl) (Nat.le_of_ble_eq_true rfl) (Nat.le_of_ble_eq_true rfl) (fun rv h2 top2 z => z.elim) (fun E h2 top2 z => ?_)
  exact z
theorem x_transition_0 {w1 : Int32} {w2 : Int32} (K : okX v h x Z) (okg : okG Z.2.1) {z : Int} (hz : inI z) (hk : z < 0 ∨ (Z.2.1.n : Int) ≤ z) : Cal v mX10_transition 7 1 6 [.ref x, .int (zI z), .int w1, .int w2] h top fX (xX iobE h top) := by
  have hx := K.1.1
  have hg := K.1.2.1
  obtain ⟨L0, gn0, fn0, hp0, -⟩ := K.2.1.2.1
  refine Cal.ofJ (by decide +kernel) rfl (Nat.le_of_ble_eq_true rfl) fun hz0 => ?_
  refine r_ls [some (.ref x), some (.int (zI z)), some (.int w1), some (.int w2)] rfl ?_
  refine r_aload_n (pc := 0) (i := 0) (tX10_transition.at 0 rfl) rfl rfl ?_
  refine r_iload_n (pc := 1) (i := 1) (tX10_transition.at 1 rfl) rfl rfl ?_
  refine r_callVX (M' := mX10_requireVertex) (pc := 2) (tX10_transition.at 2 rfl) ml_X10_150 rfl rfl mw_X10_requireVertex ⟨by decide, by decide⟩ (hx) rfl rfl (c_reqV1 hx hg hz hk (by have := okg.1; omega)) rfl rfl (Nat.le_of_ble_eq_true rfl) (Nat.le_of_ble_eq_true rfl) (Nat.le_of_ble_eq_true rfl) (Nat.le_of_ble_eq_true rfl) (Nat.le_of_ble_eq_true rfl) (fun rv h2 top2 z => z.elim) (fun E h2 top2 z => ?_)
  exact z
theorem x_transition_1 {w2 : Int32} (K : okX v h x Z) (okg : okG Z.2.1) {i : Nat} (hi : i < Z.2.1.n) {z : Int} (hz : inI z) (hk : z < 0 ∨ (Z.2.1.n : Int) ≤ z) : Cal v mX10_transition 7 1 6 [.ref x, .int (nI i), .int (zI z), .int w2] h top fX (xX iobE h top) := by
  have hx := K.1.1
  have hg := K.1.2.1
  obtain ⟨L0, gn0, fn0, hp0, -⟩ := K.2.1.2.1
  refine Cal.ofJ (by decide +kernel) rfl (Nat.le_of_ble_eq_true rfl) fun hz0 => ?_
  refine r_ls [some (.ref x), some (.int (nI i)), some (.int (zI z)), some (.int w2)] rfl ?_
  refine r_aload_n (pc := 0) (i := 0) (tX10_transition.at 0 rfl) rfl rfl ?_
  refine r_iload_n (pc := 1) (i := 1) (tX10_transition.at 1 rfl) rfl rfl ?_
  refine r_callV (M' := mX10_requireVertex) (pc := 2) (tX10_transition.at 2 rfl) ml_X10_150 rfl mw_X10_requireVertex ⟨by decide, by decide⟩ (hx) rfl rfl (c_reqV0 hx hg hi (by have := okg.1; omega)) rfl rfl (Nat.le_of_ble_eq_true rfl) (Nat.le_of_ble_eq_true rfl) (Nat.le_of_ble_eq_true rfl) ?_
  rintro _ _ _ ⟨rfl, rfl, rfl⟩
  refine r_aload_n (pc := 5) (i := 0) (tX10_transition.at 3 rfl) rfl rfl ?_
  refine r_iload_n (pc := 6) (i := 2) (tX10_transition.at 4 rfl) rfl rfl ?_
  refine r_callVX (M' := mX10_requireVertex) (pc := 7) (tX10_transition.at 5 rfl) ml_X10_150 rfl rfl mw_X10_requireVertex ⟨by decide, by decide⟩ (hx) rfl rfl (c_reqV1 hx hg hz hk (by have := okg.1; omega)) rfl rfl (Nat.le_of_ble_eq_true rfl) (Nat.le_of_ble_eq_true rfl) (Nat.le_of_ble_eq_true rfl) (Nat.le_of_ble_eq_true rfl) (Nat.le_of_ble_eq_true rfl) (fun rv h2 top2 z => z.elim) (fun E h2 top2 z => ?_)
  exact z
theorem x_hittingTime_0 {w1 : Int32} {w2 : Int32} (K : okX v h x Z) (okg : okG Z.2.1) {z : Int} (hz : inI z) (hk : z < 0 ∨ (Z.2.1.n : Int) ≤ z) : Cal v mX10_hittingTime 7 1 6 [.ref x, .int (zI z), .int w1, .int w2] h top fX (xX iobE h top) := by
  have hx := K.1.1
  have hg := K.1.2.1
  obtain ⟨L0, gn0, fn0, hp0, -⟩ := K.2.1.2.1
  refine Cal.ofJ (by decide +kernel) rfl (Nat.le_of_ble_eq_true rfl) fun hz0 => ?_
  refine r_ls [some (.ref x), some (.int (zI z)), some (.int w1), some (.int w2)] rfl ?_
  refine r_aload_n (pc := 0) (i := 0) (tX10_hittingTime.at 0 rfl) rfl rfl ?_
  refine r_iload_n (pc := 1) (i := 1) (tX10_hittingTime.at 1 rfl) rfl rfl ?_
  refine r_callVX (M' := mX10_requireVertex) (pc := 2) (tX10_hittingTime.at 2 rfl) ml_X10_150 rfl rfl mw_X10_requireVertex ⟨by decide, by decide⟩ (hx) rfl rfl (c_reqV1 hx hg hz hk (by have := okg.1; omega)) rfl rfl (Nat.le_of_ble_eq_true rfl) (Nat.le_of_ble_eq_true rfl) (Nat.le_of_ble_eq_true rfl) (Nat.le_of_ble_eq_true rfl) (Nat.le_of_ble_eq_true rfl) (fun rv h2 top2 z => z.elim) (fun E h2 top2 z => ?_)
  exact z
theorem x_hittingTime_1 {w2 : Int32} (K : okX v h x Z) (okg : okG Z.2.1) {i : Nat} (hi : i < Z.2.1.n) {z : Int} (hz : inI z) (hk : z < 0 ∨ (Z.2.1.n : Int) ≤ z) : Cal v mX10_hittingTime 7 1 6 [.ref x, .int (nI i), .int (zI z), .int w2] h top fX (xX iobE h top) := by
  have hx := K.1.1
  have hg := K.1.2.1
  obtain ⟨L0, gn0, fn0, hp0, -⟩ := K.2.1.2.1
  refine Cal.ofJ (by decide +kernel) rfl (Nat.le_of_ble_eq_true rfl) fun hz0 => ?_
  refine r_ls [some (.ref x), some (.int (nI i)), some (.int (zI z)), some (.int w2)] rfl ?_
  refine r_aload_n (pc := 0) (i := 0) (tX10_hittingTime.at 0 rfl) rfl rfl ?_
  refine r_iload_n (pc := 1) (i := 1) (tX10_hittingTime.at 1 rfl) rfl rfl ?_
  refine r_callV (M' := mX10_requireVertex) (pc := 2) (tX10_hittingTime.at 2 rfl) ml_X10_150 rfl mw_X10_requireVertex ⟨by decide, by decide⟩ (hx) rfl rfl (c_reqV0 hx hg hi (by have := okg.1; omega)) rfl rfl (Nat.le_of_ble_eq_true rfl) (Nat.le_of_ble_eq_true rfl) (Nat.le_of_ble_eq_true rfl) ?_
  rintro _ _ _ ⟨rfl, rfl, rfl⟩
  refine r_aload_n (pc := 5) (i := 0) (tX10_hittingTime.at 3 rfl) rfl rfl ?_
  refine r_iload_n (pc := 6) (i := 2) (tX10_hittingTime.at 4 rfl) rfl rfl ?_
  refine r_callVX (M' := mX10_requireVertex) (pc := 7) (tX10_hittingTime.at 5 rfl) ml_X10_150 rfl rfl mw_X10_requireVertex ⟨by decide, by decide⟩ (hx) rfl rfl (c_reqV1 hx hg hz hk (by have := okg.1; omega)) rfl rfl (Nat.le_of_ble_eq_true rfl) (Nat.le_of_ble_eq_true rfl) (Nat.le_of_ble_eq_true rfl) (Nat.le_of_ble_eq_true rfl) (Nat.le_of_ble_eq_true rfl) (fun rv h2 top2 z => z.elim) (fun E h2 top2 z => ?_)
  exact z
theorem x_hittingTime_2 {w2 : Int32} (K : okX v h x Z) (okg : okG Z.2.1) {i : Nat} (hi : i < Z.2.1.n) {j : Nat} (hj : j < Z.2.1.n) (hw : (rch Z.2.1.W Z.2.1.n i).testBit j = false) : Cal v mX10_hittingTime 7 1 6 [.ref x, .int (nI i), .int (nI j), .int w2] h top fX (xX isE' h top) := by
  have hx := K.1.1
  have hg := K.1.2.1
  obtain ⟨L0, gn0, fn0, hp0, -⟩ := K.2.1.2.1
  refine Cal.ofJ (by decide +kernel) rfl (Nat.le_of_ble_eq_true rfl) fun hz0 => ?_
  refine r_ls [some (.ref x), some (.int (nI i)), some (.int (nI j)), some (.int w2)] rfl ?_
  refine r_aload_n (pc := 0) (i := 0) (tX10_hittingTime.at 0 rfl) rfl rfl ?_
  refine r_iload_n (pc := 1) (i := 1) (tX10_hittingTime.at 1 rfl) rfl rfl ?_
  refine r_callV (M' := mX10_requireVertex) (pc := 2) (tX10_hittingTime.at 2 rfl) ml_X10_150 rfl mw_X10_requireVertex ⟨by decide, by decide⟩ (hx) rfl rfl (c_reqV0 hx hg hi (by have := okg.1; omega)) rfl rfl (Nat.le_of_ble_eq_true rfl) (Nat.le_of_ble_eq_true rfl) (Nat.le_of_ble_eq_true rfl) ?_
  rintro _ _ _ ⟨rfl, rfl, rfl⟩
  refine r_aload_n (pc := 5) (i := 0) (tX10_hittingTime.at 3 rfl) rfl rfl ?_
  refine r_iload_n (pc := 6) (i := 2) (tX10_hittingTime.at 4 rfl) rfl rfl ?_
  refine r_callV (M' := mX10_requireVertex) (pc := 7) (tX10_hittingTime.at 5 rfl) ml_X10_150 rfl mw_X10_requireVertex ⟨by decide, by decide⟩ (hx) rfl rfl (c_reqV0 hx hg hj (by have := okg.1; omega)) rfl rfl (Nat.le_of_ble_eq_true rfl) (Nat.le_of_ble_eq_true rfl) (Nat.le_of_ble_eq_true rfl) ?_
  rintro _ _ _ ⟨rfl, rfl, rfl⟩
  refine r_aload_n (pc := 10) (i := 0) (tX10_hittingTime.at 6 rfl) rfl rfl ?_
  refine r_iload_n (pc := 11) (i := 1) (tX10_hittingTime.at 7 rfl) rfl rfl ?_
  refine r_iload_n (pc := 12) (i := 2) (tX10_hittingTime.at 8 rfl) rfl rfl ?_
  refine r_callVX (M' := mX10_requireWay) (pc := 13) (tX10_hittingTime.at 9 rfl) ml_X10_168 rfl rfl mw_X10_requireWay ⟨by decide, by decide⟩ (hx) rfl rfl (c_reqWay1 hx hg okg hi (by have := okg.1; omega) hw) rfl rfl (Nat.le_of_ble_eq_true rfl) (Nat.le_of_ble_eq_true rfl) (Nat.le_of_ble_eq_true rfl) (Nat.le_of_ble_eq_true rfl) (Nat.le_of_ble_eq_true rfl) (fun rv h2 top2 z => z.elim) (fun E h2 top2 z => ?_)
  exact z
theorem x_hittingCost_0 {w1 : Int32} {w2 : Int32} (K : okX v h x Z) (okg : okG Z.2.1) {z : Int} (hz : inI z) (hk : z < 0 ∨ (Z.2.1.n : Int) ≤ z) : Cal v mX10_hittingCost 7 1 6 [.ref x, .int (zI z), .int w1, .int w2] h top fX (xX iobE h top) := by
  have hx := K.1.1
  have hg := K.1.2.1
  obtain ⟨L0, gn0, fn0, hp0, -⟩ := K.2.1.2.1
  refine Cal.ofJ (by decide +kernel) rfl (Nat.le_of_ble_eq_true rfl) fun hz0 => ?_
  refine r_ls [some (.ref x), some (.int (zI z)), some (.int w1), some (.int w2)] rfl ?_
  refine r_aload_n (pc := 0) (i := 0) (tX10_hittingCost.at 0 rfl) rfl rfl ?_
  refine r_iload_n (pc := 1) (i := 1) (tX10_hittingCost.at 1 rfl) rfl rfl ?_
  refine r_callVX (M' := mX10_requireVertex) (pc := 2) (tX10_hittingCost.at 2 rfl) ml_X10_150 rfl rfl mw_X10_requireVertex ⟨by decide, by decide⟩ (hx) rfl rfl (c_reqV1 hx hg hz hk (by have := okg.1; omega)) rfl rfl (Nat.le_of_ble_eq_true rfl) (Nat.le_of_ble_eq_true rfl) (Nat.le_of_ble_eq_true rfl) (Nat.le_of_ble_eq_true rfl) (Nat.le_of_ble_eq_true rfl) (fun rv h2 top2 z => z.elim) (fun E h2 top2 z => ?_)
  exact z
theorem x_hittingCost_1 {w2 : Int32} (K : okX v h x Z) (okg : okG Z.2.1) {i : Nat} (hi : i < Z.2.1.n) {z : Int} (hz : inI z) (hk : z < 0 ∨ (Z.2.1.n : Int) ≤ z) : Cal v mX10_hittingCost 7 1 6 [.ref x, .int (nI i), .int (zI z), .int w2] h top fX (xX iobE h top) := by
  have hx := K.1.1
  have hg := K.1.2.1
  obtain ⟨L0, gn0, fn0, hp0, -⟩ := K.2.1.2.1
  refine Cal.ofJ (by decide +kernel) rfl (Nat.le_of_ble_eq_true rfl) fun hz0 => ?_
  refine r_ls [some (.ref x), some (.int (nI i)), some (.int (zI z)), some (.int w2)] rfl ?_
  refine r_aload_n (pc := 0) (i := 0) (tX10_hittingCost.at 0 rfl) rfl rfl ?_
  refine r_iload_n (pc := 1) (i := 1) (tX10_hittingCost.at 1 rfl) rfl rfl ?_
  refine r_callV (M' := mX10_requireVertex) (pc := 2) (tX10_hittingCost.at 2 rfl) ml_X10_150 rfl mw_X10_requireVertex ⟨by decide, by decide⟩ (hx) rfl rfl (c_reqV0 hx hg hi (by have := okg.1; omega)) rfl rfl (Nat.le_of_ble_eq_true rfl) (Nat.le_of_ble_eq_true rfl) (Nat.le_of_ble_eq_true rfl) ?_
  rintro _ _ _ ⟨rfl, rfl, rfl⟩
  refine r_aload_n (pc := 5) (i := 0) (tX10_hittingCost.at 3 rfl) rfl rfl ?_
  refine r_iload_n (pc := 6) (i := 2) (tX10_hittingCost.at 4 rfl) rfl rfl ?_
  refine r_callVX (M' := mX10_requireVertex) (pc := 7) (tX10_hittingCost.at 5 rfl) ml_X10_150 rfl rfl mw_X10_requireVertex ⟨by decide, by decide⟩ (hx) rfl rfl (c_reqV1 hx hg hz hk (by have := okg.1; omega)) rfl rfl (Nat.le_of_ble_eq_true rfl) (Nat.le_of_ble_eq_true rfl) (Nat.le_of_ble_eq_true rfl) (Nat.le_of_ble_eq_true rfl) (Nat.le_of_ble_eq_true rfl) (fun rv h2 top2 z => z.elim) (fun E h2 top2 z => ?_)
  exact z
theorem x_hittingCost_2 {w2 : Int32} (K : okX v h x Z) (okg : okG Z.2.1) {i : Nat} (hi : i < Z.2.1.n) {j : Nat} (hj : j < Z.2.1.n) (hw : (rch Z.2.1.W Z.2.1.n i).testBit j = false) : Cal v mX10_hittingCost 7 1 6 [.ref x, .int (nI i), .int (nI j), .int w2] h top fX (xX isE' h top) := by
  have hx := K.1.1
  have hg := K.1.2.1
  obtain ⟨L0, gn0, fn0, hp0, -⟩ := K.2.1.2.1
  refine Cal.ofJ (by decide +kernel) rfl (Nat.le_of_ble_eq_true rfl) fun hz0 => ?_
  refine r_ls [some (.ref x), some (.int (nI i)), some (.int (nI j)), some (.int w2)] rfl ?_
  refine r_aload_n (pc := 0) (i := 0) (tX10_hittingCost.at 0 rfl) rfl rfl ?_
  refine r_iload_n (pc := 1) (i := 1) (tX10_hittingCost.at 1 rfl) rfl rfl ?_
  refine r_callV (M' := mX10_requireVertex) (pc := 2) (tX10_hittingCost.at 2 rfl) ml_X10_150 rfl mw_X10_requireVertex ⟨by decide, by decide⟩ (hx) rfl rfl (c_reqV0 hx hg hi (by have := okg.1; omega)) rfl rfl (Nat.le_of_ble_eq_true rfl) (Nat.le_of_ble_eq_true rfl) (Nat.le_of_ble_eq_true rfl) ?_
  rintro _ _ _ ⟨rfl, rfl, rfl⟩
  refine r_aload_n (pc := 5) (i := 0) (tX10_hittingCost.at 3 rfl) rfl rfl ?_
  refine r_iload_n (pc := 6) (i := 2) (tX10_hittingCost.at 4 rfl) rfl rfl ?_
  refine r_callV (M' := mX10_requireVertex) (pc := 7) (tX10_hittingCost.at 5 rfl) ml_X10_150 rfl mw_X10_requireVertex ⟨by decide, by decide⟩ (hx) rfl rfl (c_reqV0 hx hg hj (by have := okg.1; omega)) rfl rfl (Nat.le_of_ble_eq_true rfl) (Nat.le_of_ble_eq_true rfl) (Nat.le_of_ble_eq_true rfl) ?_
  rintro _ _ _ ⟨rfl, rfl, rfl⟩
  refine r_aload_n (pc := 10) (i := 0) (tX10_hittingCost.at 6 rfl) rfl rfl ?_
  refine r_iload_n (pc := 11) (i := 1) (tX10_hittingCost.at 7 rfl) rfl rfl ?_
  refine r_iload_n (pc := 12) (i := 2) (tX10_hittingCost.at 8 rfl) rfl rfl ?_
  refine r_callVX (M' := mX10_requireWay) (pc := 13) (tX10_hittingCost.at 9 rfl) ml_X10_168 rfl rfl mw_X10_requireWay ⟨by decide, by decide⟩ (hx) rfl rfl (c_reqWay1 hx hg okg hi (by have := okg.1; omega) hw) rfl rfl (Nat.le_of_ble_eq_true rfl) (Nat.le_of_ble_eq_true rfl) (Nat.le_of_ble_eq_true rfl) (Nat.le_of_ble_eq_true rfl) (Nat.le_of_ble_eq_true rfl) (fun rv h2 top2 z => z.elim) (fun E h2 top2 z => ?_)
  exact z
theorem x_commuteTime_0 {w1 : Int32} {w2 : Int32} (K : okX v h x Z) (okg : okG Z.2.1) {z : Int} (hz : inI z) (hk : z < 0 ∨ (Z.2.1.n : Int) ≤ z) : Cal v mX10_commuteTime 7 1 6 [.ref x, .int (zI z), .int w1, .int w2] h top fX (xX iobE h top) := by
  have hx := K.1.1
  have hg := K.1.2.1
  obtain ⟨L0, gn0, fn0, hp0, -⟩ := K.2.1.2.1
  refine Cal.ofJ (by decide +kernel) rfl (Nat.le_of_ble_eq_true rfl) fun hz0 => ?_
  refine r_ls [some (.ref x), some (.int (zI z)), some (.int w1), some (.int w2)] rfl ?_
  refine r_aload_n (pc := 0) (i := 0) (tX10_commuteTime.at 0 rfl) rfl rfl ?_
  refine r_iload_n (pc := 1) (i := 1) (tX10_commuteTime.at 1 rfl) rfl rfl ?_
  refine r_callVX (M' := mX10_requireVertex) (pc := 2) (tX10_commuteTime.at 2 rfl) ml_X10_150 rfl rfl mw_X10_requireVertex ⟨by decide, by decide⟩ (hx) rfl rfl (c_reqV1 hx hg hz hk (by have := okg.1; omega)) rfl rfl (Nat.le_of_ble_eq_true rfl) (Nat.le_of_ble_eq_true rfl) (Nat.le_of_ble_eq_true rfl) (Nat.le_of_ble_eq_true rfl) (Nat.le_of_ble_eq_true rfl) (fun rv h2 top2 z => z.elim) (fun E h2 top2 z => ?_)
  exact z
theorem x_commuteTime_1 {w2 : Int32} (K : okX v h x Z) (okg : okG Z.2.1) {i : Nat} (hi : i < Z.2.1.n) {z : Int} (hz : inI z) (hk : z < 0 ∨ (Z.2.1.n : Int) ≤ z) : Cal v mX10_commuteTime 7 1 6 [.ref x, .int (nI i), .int (zI z), .int w2] h top fX (xX iobE h top) := by
  have hx := K.1.1
  have hg := K.1.2.1
  obtain ⟨L0, gn0, fn0, hp0, -⟩ := K.2.1.2.1
  refine Cal.ofJ (by decide +kernel) rfl (Nat.le_of_ble_eq_true rfl) fun hz0 => ?_
  refine r_ls [some (.ref x), some (.int (nI i)), some (.int (zI z)), some (.int w2)] rfl ?_
  refine r_aload_n (pc := 0) (i := 0) (tX10_commuteTime.at 0 rfl) rfl rfl ?_
  refine r_iload_n (pc := 1) (i := 1) (tX10_commuteTime.at 1 rfl) rfl rfl ?_
  refine r_callV (M' := mX10_requireVertex) (pc := 2) (tX10_commuteTime.at 2 rfl) ml_X10_150 rfl mw_X10_requireVertex ⟨by decide, by decide⟩ (hx) rfl rfl (c_reqV0 hx hg hi (by have := okg.1; omega)) rfl rfl (Nat.le_of_ble_eq_true rfl) (Nat.le_of_ble_eq_true rfl) (Nat.le_of_ble_eq_true rfl) ?_
  rintro _ _ _ ⟨rfl, rfl, rfl⟩
  refine r_aload_n (pc := 5) (i := 0) (tX10_commuteTime.at 3 rfl) rfl rfl ?_
  refine r_iload_n (pc := 6) (i := 2) (tX10_commuteTime.at 4 rfl) rfl rfl ?_
  refine r_callVX (M' := mX10_requireVertex) (pc := 7) (tX10_commuteTime.at 5 rfl) ml_X10_150 rfl rfl mw_X10_requireVertex ⟨by decide, by decide⟩ (hx) rfl rfl (c_reqV1 hx hg hz hk (by have := okg.1; omega)) rfl rfl (Nat.le_of_ble_eq_true rfl) (Nat.le_of_ble_eq_true rfl) (Nat.le_of_ble_eq_true rfl) (Nat.le_of_ble_eq_true rfl) (Nat.le_of_ble_eq_true rfl) (fun rv h2 top2 z => z.elim) (fun E h2 top2 z => ?_)
  exact z
theorem x_commuteTime_2 {w2 : Int32} (K : okX v h x Z) (okg : okG Z.2.1) {i : Nat} (hi : i < Z.2.1.n) {j : Nat} (hj : j < Z.2.1.n) (hw : (rch Z.2.1.W Z.2.1.n i).testBit j = false) : Cal v mX10_commuteTime 7 1 6 [.ref x, .int (nI i), .int (nI j), .int w2] h top fX (xX isE' h top) := by
  have hx := K.1.1
  have hg := K.1.2.1
  obtain ⟨L0, gn0, fn0, hp0, -⟩ := K.2.1.2.1
  refine Cal.ofJ (by decide +kernel) rfl (Nat.le_of_ble_eq_true rfl) fun hz0 => ?_
  refine r_ls [some (.ref x), some (.int (nI i)), some (.int (nI j)), some (.int w2)] rfl ?_
  refine r_aload_n (pc := 0) (i := 0) (tX10_commuteTime.at 0 rfl) rfl rfl ?_
  refine r_iload_n (pc := 1) (i := 1) (tX10_commuteTime.at 1 rfl) rfl rfl ?_
  refine r_callV (M' := mX10_requireVertex) (pc := 2) (tX10_commuteTime.at 2 rfl) ml_X10_150 rfl mw_X10_requireVertex ⟨by decide, by decide⟩ (hx) rfl rfl (c_reqV0 hx hg hi (by have := okg.1; omega)) rfl rfl (Nat.le_of_ble_eq_true rfl) (Nat.le_of_ble_eq_true rfl) (Nat.le_of_ble_eq_true rfl) ?_
  rintro _ _ _ ⟨rfl, rfl, rfl⟩
  refine r_aload_n (pc := 5) (i := 0) (tX10_commuteTime.at 3 rfl) rfl rfl ?_
  refine r_iload_n (pc := 6) (i := 2) (tX10_commuteTime.at 4 rfl) rfl rfl ?_
  refine r_callV (M' := mX10_requireVertex) (pc := 7) (tX10_commuteTime.at 5 rfl) ml_X10_150 rfl mw_X10_requireVertex ⟨by decide, by decide⟩ (hx) rfl rfl (c_reqV0 hx hg hj (by have := okg.1; omega)) rfl rfl (Nat.le_of_ble_eq_true rfl) (Nat.le_of_ble_eq_true rfl) (Nat.le_of_ble_eq_true rfl) ?_
  rintro _ _ _ ⟨rfl, rfl, rfl⟩
  refine r_aload_n (pc := 10) (i := 0) (tX10_commuteTime.at 6 rfl) rfl rfl ?_
  refine r_iload_n (pc := 11) (i := 1) (tX10_commuteTime.at 7 rfl) rfl rfl ?_
  refine r_iload_n (pc := 12) (i := 2) (tX10_commuteTime.at 8 rfl) rfl rfl ?_
  refine r_callVX (M' := mX10_requireWay) (pc := 13) (tX10_commuteTime.at 9 rfl) ml_X10_168 rfl rfl mw_X10_requireWay ⟨by decide, by decide⟩ (hx) rfl rfl (c_reqWay1 hx hg okg hi (by have := okg.1; omega) hw) rfl rfl (Nat.le_of_ble_eq_true rfl) (Nat.le_of_ble_eq_true rfl) (Nat.le_of_ble_eq_true rfl) (Nat.le_of_ble_eq_true rfl) (Nat.le_of_ble_eq_true rfl) (fun rv h2 top2 z => z.elim) (fun E h2 top2 z => ?_)
  exact z
theorem x_resistance_0 {w1 : Int32} {w2 : Int32} (K : okX v h x Z) (okg : okG Z.2.1) {z : Int} (hz : inI z) (hk : z < 0 ∨ (Z.2.1.n : Int) ≤ z) : Cal v mX10_resistance 7 1 6 [.ref x, .int (zI z), .int w1, .int w2] h top fX (xX iobE h top) := by
  have hx := K.1.1
  have hg := K.1.2.1
  obtain ⟨L0, gn0, fn0, hp0, -⟩ := K.2.1.2.1
  refine Cal.ofJ (by decide +kernel) rfl (Nat.le_of_ble_eq_true rfl) fun hz0 => ?_
  refine r_ls [some (.ref x), some (.int (zI z)), some (.int w1), some (.int w2)] rfl ?_
  refine r_aload_n (pc := 0) (i := 0) (tX10_resistance.at 0 rfl) rfl rfl ?_
  refine r_iload_n (pc := 1) (i := 1) (tX10_resistance.at 1 rfl) rfl rfl ?_
  refine r_callVX (M' := mX10_requireVertex) (pc := 2) (tX10_resistance.at 2 rfl) ml_X10_150 rfl rfl mw_X10_requireVertex ⟨by decide, by decide⟩ (hx) rfl rfl (c_reqV1 hx hg hz hk (by have := okg.1; omega)) rfl rfl (Nat.le_of_ble_eq_true rfl) (Nat.le_of_ble_eq_true rfl) (Nat.le_of_ble_eq_true rfl) (Nat.le_of_ble_eq_true rfl) (Nat.le_of_ble_eq_true rfl) (fun rv h2 top2 z => z.elim) (fun E h2 top2 z => ?_)
  exact z
theorem x_resistance_1 {w2 : Int32} (K : okX v h x Z) (okg : okG Z.2.1) {i : Nat} (hi : i < Z.2.1.n) {z : Int} (hz : inI z) (hk : z < 0 ∨ (Z.2.1.n : Int) ≤ z) : Cal v mX10_resistance 7 1 6 [.ref x, .int (nI i), .int (zI z), .int w2] h top fX (xX iobE h top) := by
  have hx := K.1.1
  have hg := K.1.2.1
  obtain ⟨L0, gn0, fn0, hp0, -⟩ := K.2.1.2.1
  refine Cal.ofJ (by decide +kernel) rfl (Nat.le_of_ble_eq_true rfl) fun hz0 => ?_
  refine r_ls [some (.ref x), some (.int (nI i)), some (.int (zI z)), some (.int w2)] rfl ?_
  refine r_aload_n (pc := 0) (i := 0) (tX10_resistance.at 0 rfl) rfl rfl ?_
  refine r_iload_n (pc := 1) (i := 1) (tX10_resistance.at 1 rfl) rfl rfl ?_
  refine r_callV (M' := mX10_requireVertex) (pc := 2) (tX10_resistance.at 2 rfl) ml_X10_150 rfl mw_X10_requireVertex ⟨by decide, by decide⟩ (hx) rfl rfl (c_reqV0 hx hg hi (by have := okg.1; omega)) rfl rfl (Nat.le_of_ble_eq_true rfl) (Nat.le_of_ble_eq_true rfl) (Nat.le_of_ble_eq_true rfl) ?_
  rintro _ _ _ ⟨rfl, rfl, rfl⟩
  refine r_aload_n (pc := 5) (i := 0) (tX10_resistance.at 3 rfl) rfl rfl ?_
  refine r_iload_n (pc := 6) (i := 2) (tX10_resistance.at 4 rfl) rfl rfl ?_
  refine r_callVX (M' := mX10_requireVertex) (pc := 7) (tX10_resistance.at 5 rfl) ml_X10_150 rfl rfl mw_X10_requireVertex ⟨by decide, by decide⟩ (hx) rfl rfl (c_reqV1 hx hg hz hk (by have := okg.1; omega)) rfl rfl (Nat.le_of_ble_eq_true rfl) (Nat.le_of_ble_eq_true rfl) (Nat.le_of_ble_eq_true rfl) (Nat.le_of_ble_eq_true rfl) (Nat.le_of_ble_eq_true rfl) (fun rv h2 top2 z => z.elim) (fun E h2 top2 z => ?_)
  exact z
theorem x_resistance_2 {w2 : Int32} (K : okX v h x Z) (okg : okG Z.2.1) {i : Nat} (hi : i < Z.2.1.n) {j : Nat} (hj : j < Z.2.1.n) (hw : (rch Z.2.1.W Z.2.1.n i).testBit j = false) : Cal v mX10_resistance 7 1 6 [.ref x, .int (nI i), .int (nI j), .int w2] h top fX (xX isE' h top) := by
  have hx := K.1.1
  have hg := K.1.2.1
  obtain ⟨L0, gn0, fn0, hp0, -⟩ := K.2.1.2.1
  refine Cal.ofJ (by decide +kernel) rfl (Nat.le_of_ble_eq_true rfl) fun hz0 => ?_
  refine r_ls [some (.ref x), some (.int (nI i)), some (.int (nI j)), some (.int w2)] rfl ?_
  refine r_aload_n (pc := 0) (i := 0) (tX10_resistance.at 0 rfl) rfl rfl ?_
  refine r_iload_n (pc := 1) (i := 1) (tX10_resistance.at 1 rfl) rfl rfl ?_
  refine r_callV (M' := mX10_requireVertex) (pc := 2) (tX10_resistance.at 2 rfl) ml_X10_150 rfl mw_X10_requireVertex ⟨by decide, by decide⟩ (hx) rfl rfl (c_reqV0 hx hg hi (by have := okg.1; omega)) rfl rfl (Nat.le_of_ble_eq_true rfl) (Nat.le_of_ble_eq_true rfl) (Nat.le_of_ble_eq_true rfl) ?_
  rintro _ _ _ ⟨rfl, rfl, rfl⟩
  refine r_aload_n (pc := 5) (i := 0) (tX10_resistance.at 3 rfl) rfl rfl ?_
  refine r_iload_n (pc := 6) (i := 2) (tX10_resistance.at 4 rfl) rfl rfl ?_
  refine r_callV (M' := mX10_requireVertex) (pc := 7) (tX10_resistance.at 5 rfl) ml_X10_150 rfl mw_X10_requireVertex ⟨by decide, by decide⟩ (hx) rfl rfl (c_reqV0 hx hg hj (by have := okg.1; omega)) rfl rfl (Nat.le_of_ble_eq_true rfl) (Nat.le_of_ble_eq_true rfl) (Nat.le_of_ble_eq_true rfl) ?_
  rintro _ _ _ ⟨rfl, rfl, rfl⟩
  refine r_aload_n (pc := 10) (i := 0) (tX10_resistance.at 6 rfl) rfl rfl ?_
  refine r_iload_n (pc := 11) (i := 1) (tX10_resistance.at 7 rfl) rfl rfl ?_
  refine r_iload_n (pc := 12) (i := 2) (tX10_resistance.at 8 rfl) rfl rfl ?_
  refine r_callVX (M' := mX10_requireWay) (pc := 13) (tX10_resistance.at 9 rfl) ml_X10_168 rfl rfl mw_X10_requireWay ⟨by decide, by decide⟩ (hx) rfl rfl (c_reqWay1 hx hg okg hi (by have := okg.1; omega) hw) rfl rfl (Nat.le_of_ble_eq_true rfl) (Nat.le_of_ble_eq_true rfl) (Nat.le_of_ble_eq_true rfl) (Nat.le_of_ble_eq_true rfl) (Nat.le_of_ble_eq_true rfl) (fun rv h2 top2 z => z.elim) (fun E h2 top2 z => ?_)
  exact z
theorem x_absorption_0 {w1 : Int32} {w2 : Int32} (K : okX v h x Z) (okg : okG Z.2.1) {z : Int} (hz : inI z) (hk : z < 0 ∨ (Z.2.1.n : Int) ≤ z) : Cal v mX10_absorption 7 1 6 [.ref x, .int (zI z), .int w1, .int w2] h top fX (xX iobE h top) := by
  have hx := K.1.1
  have hg := K.1.2.1
  obtain ⟨L0, gn0, fn0, hp0, -⟩ := K.2.1.2.1
  refine Cal.ofJ (by decide +kernel) rfl (Nat.le_of_ble_eq_true rfl) fun hz0 => ?_
  refine r_ls [some (.ref x), some (.int (zI z)), some (.int w1), some (.int w2)] rfl ?_
  refine r_aload_n (pc := 0) (i := 0) (tX10_absorption.at 0 rfl) rfl rfl ?_
  refine r_iload_n (pc := 1) (i := 1) (tX10_absorption.at 1 rfl) rfl rfl ?_
  refine r_callVX (M' := mX10_requireVertex) (pc := 2) (tX10_absorption.at 2 rfl) ml_X10_150 rfl rfl mw_X10_requireVertex ⟨by decide, by decide⟩ (hx) rfl rfl (c_reqV1 hx hg hz hk (by have := okg.1; omega)) rfl rfl (Nat.le_of_ble_eq_true rfl) (Nat.le_of_ble_eq_true rfl) (Nat.le_of_ble_eq_true rfl) (Nat.le_of_ble_eq_true rfl) (Nat.le_of_ble_eq_true rfl) (fun rv h2 top2 z => z.elim) (fun E h2 top2 z => ?_)
  exact z
theorem x_absorption_1 {w2 : Int32} (K : okX v h x Z) (okg : okG Z.2.1) {i : Nat} (hi : i < Z.2.1.n) {z : Int} (hz : inI z) (hk : z < 0 ∨ (Z.2.1.n : Int) ≤ z) : Cal v mX10_absorption 7 1 6 [.ref x, .int (nI i), .int (zI z), .int w2] h top fX (xX iobE h top) := by
  have hx := K.1.1
  have hg := K.1.2.1
  obtain ⟨L0, gn0, fn0, hp0, -⟩ := K.2.1.2.1
  refine Cal.ofJ (by decide +kernel) rfl (Nat.le_of_ble_eq_true rfl) fun hz0 => ?_
  refine r_ls [some (.ref x), some (.int (nI i)), some (.int (zI z)), some (.int w2)] rfl ?_
  refine r_aload_n (pc := 0) (i := 0) (tX10_absorption.at 0 rfl) rfl rfl ?_
  refine r_iload_n (pc := 1) (i := 1) (tX10_absorption.at 1 rfl) rfl rfl ?_
  refine r_callV (M' := mX10_requireVertex) (pc := 2) (tX10_absorption.at 2 rfl) ml_X10_150 rfl mw_X10_requireVertex ⟨by decide, by decide⟩ (hx) rfl rfl (c_reqV0 hx hg hi (by have := okg.1; omega)) rfl rfl (Nat.le_of_ble_eq_true rfl) (Nat.le_of_ble_eq_true rfl) (Nat.le_of_ble_eq_true rfl) ?_
  rintro _ _ _ ⟨rfl, rfl, rfl⟩
  refine r_aload_n (pc := 5) (i := 0) (tX10_absorption.at 3 rfl) rfl rfl ?_
  refine r_iload_n (pc := 6) (i := 2) (tX10_absorption.at 4 rfl) rfl rfl ?_
  refine r_callVX (M' := mX10_requireVertex) (pc := 7) (tX10_absorption.at 5 rfl) ml_X10_150 rfl rfl mw_X10_requireVertex ⟨by decide, by decide⟩ (hx) rfl rfl (c_reqV1 hx hg hz hk (by have := okg.1; omega)) rfl rfl (Nat.le_of_ble_eq_true rfl) (Nat.le_of_ble_eq_true rfl) (Nat.le_of_ble_eq_true rfl) (Nat.le_of_ble_eq_true rfl) (Nat.le_of_ble_eq_true rfl) (fun rv h2 top2 z => z.elim) (fun E h2 top2 z => ?_)
  exact z
theorem x_absorption_2 {w2 : Int32} (K : okX v h x Z) (okg : okG Z.2.1) {i : Nat} (hi : i < Z.2.1.n) {j : Nat} (hj : j < Z.2.1.n) (hw : Z.2.1.a.testBit j = false) : Cal v mX10_absorption 7 1 6 [.ref x, .int (nI i), .int (nI j), .int w2] h top fX (xX iaE h top) := by
  have hx := K.1.1
  have hg := K.1.2.1
  obtain ⟨L0, gn0, fn0, hp0, -⟩ := K.2.1.2.1
  refine Cal.ofJ (by decide +kernel) rfl (Nat.le_of_ble_eq_true rfl) fun hz0 => ?_
  refine r_ls [some (.ref x), some (.int (nI i)), some (.int (nI j)), some (.int w2)] rfl ?_
  refine r_aload_n (pc := 0) (i := 0) (tX10_absorption.at 0 rfl) rfl rfl ?_
  refine r_iload_n (pc := 1) (i := 1) (tX10_absorption.at 1 rfl) rfl rfl ?_
  refine r_callV (M' := mX10_requireVertex) (pc := 2) (tX10_absorption.at 2 rfl) ml_X10_150 rfl mw_X10_requireVertex ⟨by decide, by decide⟩ (hx) rfl rfl (c_reqV0 hx hg hi (by have := okg.1; omega)) rfl rfl (Nat.le_of_ble_eq_true rfl) (Nat.le_of_ble_eq_true rfl) (Nat.le_of_ble_eq_true rfl) ?_
  rintro _ _ _ ⟨rfl, rfl, rfl⟩
  refine r_aload_n (pc := 5) (i := 0) (tX10_absorption.at 3 rfl) rfl rfl ?_
  refine r_iload_n (pc := 6) (i := 2) (tX10_absorption.at 4 rfl) rfl rfl ?_
  refine r_callV (M' := mX10_requireVertex) (pc := 7) (tX10_absorption.at 5 rfl) ml_X10_150 rfl mw_X10_requireVertex ⟨by decide, by decide⟩ (hx) rfl rfl (c_reqV0 hx hg hj (by have := okg.1; omega)) rfl rfl (Nat.le_of_ble_eq_true rfl) (Nat.le_of_ble_eq_true rfl) (Nat.le_of_ble_eq_true rfl) ?_
  rintro _ _ _ ⟨rfl, rfl, rfl⟩
  have h6 := okg.1
  refine r_aload_n (pc := 10) (i := 0) (tX10_absorption.at 6 rfl) rfl rfl ?_
  refine r_get (pc := 11) (tX10_absorption.at 7 rfl) gf_X10_16 (hx) rfl ?_
  refine r_iload_n (pc := 14) (i := 2) (tX10_absorption.at 8 rfl) rfl rfl ?_
  refine r_callV (M' := mX3_isAbsorbing) (pc := 15) (tX10_absorption.at 9 rfl) ml_X10_200 rfl mw_X3_isAbsorbing ⟨by decide, by decide⟩ (hg.1) rfl rfl (c_isAbs hg okg.2.2.1 (y := j) (by omega)) rfl rfl (Nat.le_of_ble_eq_true rfl) (Nat.le_of_ble_eq_true rfl) (Nat.le_of_ble_eq_true rfl) ?_
  rintro _ _ _ ⟨rfl, rfl, rfl⟩
  rw [hw]
  refine r_if_neN (pc := 18) 31 (tX10_absorption.at 10 rfl) (by decide) (by decide) (fun z => absurd rfl z) (fun _ => ?_)
  refine r_throw 13 (pc := 21) rfl xw_X10_96 rfl (tX10_absorption.at 11 rfl) (tX10_absorption.at 12 rfl) (tX10_absorption.at 13 rfl) (tX10_absorption.at 14 rfl) (tX10_absorption.at 15 rfl) (Nat.le_of_ble_eq_true rfl) (Nat.le_of_ble_eq_true rfl) (Nat.le_of_ble_eq_true rfl) (Nat.le_of_ble_eq_true rfl) (Nat.le_of_ble_eq_true rfl) (Nat.le_of_ble_eq_true rfl) (fun top2 ht2 => ?_)
  exact ⟨rfl, rfl, ht2⟩
theorem x_absorption_3 {w2 : Int32} (K : okX v h x Z) (okg : okG Z.2.1) {i : Nat} (hi : i < Z.2.1.n) {j : Nat} (hj : j < Z.2.1.n) (hat : Z.2.1.a.testBit j = true) (hw : rch Z.2.1.W Z.2.1.n i &&& Z.2.1.a = 0) : Cal v mX10_absorption 7 1 6 [.ref x, .int (nI i), .int (nI j), .int w2] h top fX (xX isE' h top) := by
  have hx := K.1.1
  have hg := K.1.2.1
  obtain ⟨L0, gn0, fn0, hp0, -⟩ := K.2.1.2.1
  refine Cal.ofJ (by decide +kernel) rfl (Nat.le_of_ble_eq_true rfl) fun hz0 => ?_
  refine r_ls [some (.ref x), some (.int (nI i)), some (.int (nI j)), some (.int w2)] rfl ?_
  refine r_aload_n (pc := 0) (i := 0) (tX10_absorption.at 0 rfl) rfl rfl ?_
  refine r_iload_n (pc := 1) (i := 1) (tX10_absorption.at 1 rfl) rfl rfl ?_
  refine r_callV (M' := mX10_requireVertex) (pc := 2) (tX10_absorption.at 2 rfl) ml_X10_150 rfl mw_X10_requireVertex ⟨by decide, by decide⟩ (hx) rfl rfl (c_reqV0 hx hg hi (by have := okg.1; omega)) rfl rfl (Nat.le_of_ble_eq_true rfl) (Nat.le_of_ble_eq_true rfl) (Nat.le_of_ble_eq_true rfl) ?_
  rintro _ _ _ ⟨rfl, rfl, rfl⟩
  refine r_aload_n (pc := 5) (i := 0) (tX10_absorption.at 3 rfl) rfl rfl ?_
  refine r_iload_n (pc := 6) (i := 2) (tX10_absorption.at 4 rfl) rfl rfl ?_
  refine r_callV (M' := mX10_requireVertex) (pc := 7) (tX10_absorption.at 5 rfl) ml_X10_150 rfl mw_X10_requireVertex ⟨by decide, by decide⟩ (hx) rfl rfl (c_reqV0 hx hg hj (by have := okg.1; omega)) rfl rfl (Nat.le_of_ble_eq_true rfl) (Nat.le_of_ble_eq_true rfl) (Nat.le_of_ble_eq_true rfl) ?_
  rintro _ _ _ ⟨rfl, rfl, rfl⟩
  have h6 := okg.1
  refine r_aload_n (pc := 10) (i := 0) (tX10_absorption.at 6 rfl) rfl rfl ?_
  refine r_get (pc := 11) (tX10_absorption.at 7 rfl) gf_X10_16 (hx) rfl ?_
  refine r_iload_n (pc := 14) (i := 2) (tX10_absorption.at 8 rfl) rfl rfl ?_
  refine r_callV (M' := mX3_isAbsorbing) (pc := 15) (tX10_absorption.at 9 rfl) ml_X10_200 rfl mw_X3_isAbsorbing ⟨by decide, by decide⟩ (hg.1) rfl rfl (c_isAbs hg okg.2.2.1 (y := j) (by omega)) rfl rfl (Nat.le_of_ble_eq_true rfl) (Nat.le_of_ble_eq_true rfl) (Nat.le_of_ble_eq_true rfl) ?_
  rintro _ _ _ ⟨rfl, rfl, rfl⟩
  rw [hat]
  refine r_if_neN (pc := 18) 31 (tX10_absorption.at 10 rfl) (by decide) (by decide) (fun _ => ?_) (fun z => absurd z (by decide))
  refine r_aload_n (pc := 31) (i := 0) (tX10_absorption.at 16 rfl) rfl rfl ?_
  refine r_iload_n (pc := 32) (i := 1) (tX10_absorption.at 17 rfl) rfl rfl ?_
  refine r_callVX (M' := mX10_requireAbsorbingWay) (pc := 33) (tX10_absorption.at 18 rfl) ml_X10_206 rfl rfl mw_X10_requireAbsorbingWay ⟨by decide, by decide⟩ (hx) rfl rfl (c_reqAb1 hx hg okg hi hw) rfl rfl (Nat.le_of_ble_eq_true rfl) (Nat.le_of_ble_eq_true rfl) (Nat.le_of_ble_eq_true rfl) (Nat.le_of_ble_eq_true rfl) (Nat.le_of_ble_eq_true rfl) (fun rv h2 top2 z => z.elim) (fun E h2 top2 z => ?_)
  exact z
theorem x_absorptionTime_0 {w1 : Int32} (K : okX v h x Z) (okg : okG Z.2.1) {z : Int} (hz : inI z) (hk : z < 0 ∨ (Z.2.1.n : Int) ≤ z) : Cal v mX10_absorptionTime 7 1 6 [.ref x, .int (zI z), .int w1] h top fX (xX iobE h top) := by
  have hx := K.1.1
  have hg := K.1.2.1
  obtain ⟨L0, gn0, fn0, hp0, -⟩ := K.2.1.2.1
  refine Cal.ofJ (by decide +kernel) rfl (Nat.le_of_ble_eq_true rfl) fun hz0 => ?_
  refine r_ls [some (.ref x), some (.int (zI z)), some (.int w1)] rfl ?_
  refine r_aload_n (pc := 0) (i := 0) (tX10_absorptionTime.at 0 rfl) rfl rfl ?_
  refine r_iload_n (pc := 1) (i := 1) (tX10_absorptionTime.at 1 rfl) rfl rfl ?_
  refine r_callVX (M' := mX10_requireVertex) (pc := 2) (tX10_absorptionTime.at 2 rfl) ml_X10_150 rfl rfl mw_X10_requireVertex ⟨by decide, by decide⟩ (hx) rfl rfl (c_reqV1 hx hg hz hk (by have := okg.1; omega)) rfl rfl (Nat.le_of_ble_eq_true rfl) (Nat.le_of_ble_eq_true rfl) (Nat.le_of_ble_eq_true rfl) (Nat.le_of_ble_eq_true rfl) (Nat.le_of_ble_eq_true rfl) (fun rv h2 top2 z => z.elim) (fun E h2 top2 z => ?_)
  exact z
theorem x_absorptionTime_1 {w1 : Int32} (K : okX v h x Z) (okg : okG Z.2.1) {i : Nat} (hi : i < Z.2.1.n) (hw : rch Z.2.1.W Z.2.1.n i &&& Z.2.1.a = 0) : Cal v mX10_absorptionTime 7 1 6 [.ref x, .int (nI i), .int w1] h top fX (xX isE' h top) := by
  have hx := K.1.1
  have hg := K.1.2.1
  obtain ⟨L0, gn0, fn0, hp0, -⟩ := K.2.1.2.1
  refine Cal.ofJ (by decide +kernel) rfl (Nat.le_of_ble_eq_true rfl) fun hz0 => ?_
  refine r_ls [some (.ref x), some (.int (nI i)), some (.int w1)] rfl ?_
  refine r_aload_n (pc := 0) (i := 0) (tX10_absorptionTime.at 0 rfl) rfl rfl ?_
  refine r_iload_n (pc := 1) (i := 1) (tX10_absorptionTime.at 1 rfl) rfl rfl ?_
  refine r_callV (M' := mX10_requireVertex) (pc := 2) (tX10_absorptionTime.at 2 rfl) ml_X10_150 rfl mw_X10_requireVertex ⟨by decide, by decide⟩ (hx) rfl rfl (c_reqV0 hx hg hi (by have := okg.1; omega)) rfl rfl (Nat.le_of_ble_eq_true rfl) (Nat.le_of_ble_eq_true rfl) (Nat.le_of_ble_eq_true rfl) ?_
  rintro _ _ _ ⟨rfl, rfl, rfl⟩
  refine r_aload_n (pc := 5) (i := 0) (tX10_absorptionTime.at 3 rfl) rfl rfl ?_
  refine r_iload_n (pc := 6) (i := 1) (tX10_absorptionTime.at 4 rfl) rfl rfl ?_
  refine r_callVX (M' := mX10_requireAbsorbingWay) (pc := 7) (tX10_absorptionTime.at 5 rfl) ml_X10_206 rfl rfl mw_X10_requireAbsorbingWay ⟨by decide, by decide⟩ (hx) rfl rfl (c_reqAb1 hx hg okg hi hw) rfl rfl (Nat.le_of_ble_eq_true rfl) (Nat.le_of_ble_eq_true rfl) (Nat.le_of_ble_eq_true rfl) (Nat.le_of_ble_eq_true rfl) (Nat.le_of_ble_eq_true rfl) (fun rv h2 top2 z => z.elim) (fun E h2 top2 z => ?_)
  exact z
theorem x_blockOf_0 (K : okX v h x Z) (okg : okG Z.2.1) {z : Int} (hz : inI z) (hk : z < 0 ∨ (Z.2.1.n : Int) ≤ z) : Cal v mX10_blockOf 7 1 6 [.ref x, .int (zI z)] h top fX (xX iobE h top) := by
  have hx := K.1.1
  have hg := K.1.2.1
  obtain ⟨L0, gn0, fn0, hp0, -⟩ := K.2.1.2.1
  refine Cal.ofJ (by decide +kernel) rfl (Nat.le_of_ble_eq_true rfl) fun hz0 => ?_
  refine r_ls [some (.ref x), some (.int (zI z))] rfl ?_
  refine r_aload_n (pc := 0) (i := 0) (tX10_blockOf.at 0 rfl) rfl rfl ?_
  refine r_iload_n (pc := 1) (i := 1) (tX10_blockOf.at 1 rfl) rfl rfl ?_
  refine r_callVX (M' := mX10_requireVertex) (pc := 2) (tX10_blockOf.at 2 rfl) ml_X10_150 rfl rfl mw_X10_requireVertex ⟨by decide, by decide⟩ (hx) rfl rfl (c_reqV1 hx hg hz hk (by have := okg.1; omega)) rfl rfl (Nat.le_of_ble_eq_true rfl) (Nat.le_of_ble_eq_true rfl) (Nat.le_of_ble_eq_true rfl) (Nat.le_of_ble_eq_true rfl) (Nat.le_of_ble_eq_true rfl) (fun rv h2 top2 z => z.elim) (fun E h2 top2 z => ?_)
  exact z
theorem x_lumped_0 {w1 : Int32} {w2 : Int32} (K : okX v h x Z) (okg : okG Z.2.1) (hb : Z.2.1.b ≤ 6) {z : Int} (hz : inI z) (hk : z < 0 ∨ (Z.2.1.b : Int) ≤ z) : Cal v mX10_lumped 7 1 6 [.ref x, .int (zI z), .int w1, .int w2] h top fX (xX iobE h top) := by
  have hx := K.1.1
  have hg := K.1.2.1
  obtain ⟨L0, gn0, fn0, hp0, -⟩ := K.2.1.2.1
  refine Cal.ofJ (by decide +kernel) rfl (Nat.le_of_ble_eq_true rfl) fun hz0 => ?_
  refine r_ls [some (.ref x), some (.int (zI z)), some (.int w1), some (.int w2)] rfl ?_
  refine r_aload_n (pc := 0) (i := 0) (tX10_lumped.at 0 rfl) rfl rfl ?_
  refine r_iload_n (pc := 1) (i := 1) (tX10_lumped.at 1 rfl) rfl rfl ?_
  refine r_callVX (M' := mX10_requireBlock) (pc := 2) (tX10_lumped.at 2 rfl) ml_X10_229 rfl rfl mw_X10_requireBlock ⟨by decide, by decide⟩ (hx) rfl rfl (c_reqB1 hx hg hz hk (by omega)) rfl rfl (Nat.le_of_ble_eq_true rfl) (Nat.le_of_ble_eq_true rfl) (Nat.le_of_ble_eq_true rfl) (Nat.le_of_ble_eq_true rfl) (Nat.le_of_ble_eq_true rfl) (fun rv h2 top2 z => z.elim) (fun E h2 top2 z => ?_)
  exact z
theorem x_lumped_1 {w2 : Int32} (K : okX v h x Z) (okg : okG Z.2.1) (hb : Z.2.1.b ≤ 6) {i : Nat} (hi : i < Z.2.1.b) {z : Int} (hz : inI z) (hk : z < 0 ∨ (Z.2.1.b : Int) ≤ z) : Cal v mX10_lumped 7 1 6 [.ref x, .int (nI i), .int (zI z), .int w2] h top fX (xX iobE h top) := by
  have hx := K.1.1
  have hg := K.1.2.1
  obtain ⟨L0, gn0, fn0, hp0, -⟩ := K.2.1.2.1
  refine Cal.ofJ (by decide +kernel) rfl (Nat.le_of_ble_eq_true rfl) fun hz0 => ?_
  refine r_ls [some (.ref x), some (.int (nI i)), some (.int (zI z)), some (.int w2)] rfl ?_
  refine r_aload_n (pc := 0) (i := 0) (tX10_lumped.at 0 rfl) rfl rfl ?_
  refine r_iload_n (pc := 1) (i := 1) (tX10_lumped.at 1 rfl) rfl rfl ?_
  refine r_callV (M' := mX10_requireBlock) (pc := 2) (tX10_lumped.at 2 rfl) ml_X10_229 rfl mw_X10_requireBlock ⟨by decide, by decide⟩ (hx) rfl rfl (c_reqB0 hx hg hi (by omega)) rfl rfl (Nat.le_of_ble_eq_true rfl) (Nat.le_of_ble_eq_true rfl) (Nat.le_of_ble_eq_true rfl) ?_
  rintro _ _ _ ⟨rfl, rfl, rfl⟩
  refine r_aload_n (pc := 5) (i := 0) (tX10_lumped.at 3 rfl) rfl rfl ?_
  refine r_iload_n (pc := 6) (i := 2) (tX10_lumped.at 4 rfl) rfl rfl ?_
  refine r_callVX (M' := mX10_requireBlock) (pc := 7) (tX10_lumped.at 5 rfl) ml_X10_229 rfl rfl mw_X10_requireBlock ⟨by decide, by decide⟩ (hx) rfl rfl (c_reqB1 hx hg hz hk (by omega)) rfl rfl (Nat.le_of_ble_eq_true rfl) (Nat.le_of_ble_eq_true rfl) (Nat.le_of_ble_eq_true rfl) (Nat.le_of_ble_eq_true rfl) (Nat.le_of_ble_eq_true rfl) (fun rv h2 top2 z => z.elim) (fun E h2 top2 z => ?_)
  exact z
theorem x_lumped_2 {w2 : Int32} (K : okX v h x Z) (okg : okG Z.2.1) (hb : Z.2.1.b ≤ 6) {i : Nat} (hi : i < Z.2.1.b) {j : Nat} (hj : j < Z.2.1.b) (hw : ptB Z.2.1 = true) : Cal v mX10_lumped 7 1 6 [.ref x, .int (nI i), .int (nI j), .int w2] h top fX (xX isE' h top) := by
  have hx := K.1.1
  have hg := K.1.2.1
  obtain ⟨L0, gn0, fn0, hp0, -⟩ := K.2.1.2.1
  refine Cal.ofJ (by decide +kernel) rfl (Nat.le_of_ble_eq_true rfl) fun hz0 => ?_
  refine r_ls [some (.ref x), some (.int (nI i)), some (.int (nI j)), some (.int w2)] rfl ?_
  refine r_aload_n (pc := 0) (i := 0) (tX10_lumped.at 0 rfl) rfl rfl ?_
  refine r_iload_n (pc := 1) (i := 1) (tX10_lumped.at 1 rfl) rfl rfl ?_
  refine r_callV (M' := mX10_requireBlock) (pc := 2) (tX10_lumped.at 2 rfl) ml_X10_229 rfl mw_X10_requireBlock ⟨by decide, by decide⟩ (hx) rfl rfl (c_reqB0 hx hg hi (by omega)) rfl rfl (Nat.le_of_ble_eq_true rfl) (Nat.le_of_ble_eq_true rfl) (Nat.le_of_ble_eq_true rfl) ?_
  rintro _ _ _ ⟨rfl, rfl, rfl⟩
  refine r_aload_n (pc := 5) (i := 0) (tX10_lumped.at 3 rfl) rfl rfl ?_
  refine r_iload_n (pc := 6) (i := 2) (tX10_lumped.at 4 rfl) rfl rfl ?_
  refine r_callV (M' := mX10_requireBlock) (pc := 7) (tX10_lumped.at 5 rfl) ml_X10_229 rfl mw_X10_requireBlock ⟨by decide, by decide⟩ (hx) rfl rfl (c_reqB0 hx hg hj (by omega)) rfl rfl (Nat.le_of_ble_eq_true rfl) (Nat.le_of_ble_eq_true rfl) (Nat.le_of_ble_eq_true rfl) ?_
  rintro _ _ _ ⟨rfl, rfl, rfl⟩
  refine r_aload_n (pc := 10) (i := 0) (tX10_lumped.at 6 rfl) rfl rfl ?_
  refine r_callVX (M' := mX10_requireLumpable) (pc := 11) (tX10_lumped.at 7 rfl) ml_X10_232 rfl rfl mw_X10_requireLumpable ⟨by decide, by decide⟩ (hx) rfl rfl (c_reqLu1 hx hp0 hg okg hb hw) rfl rfl (Nat.le_of_ble_eq_true rfl) (Nat.le_of_ble_eq_true rfl) (Nat.le_of_ble_eq_true rfl) (Nat.le_of_ble_eq_true rfl) (Nat.le_of_ble_eq_true rfl) (fun rv h2 top2 z => z.elim) (fun E h2 top2 z => ?_)
  exact z
theorem x_lumpedTime_0 {w1 : Int32} {w2 : Int32} (K : okX v h x Z) (okg : okG Z.2.1) (hb : Z.2.1.b ≤ 6) {z : Int} (hz : inI z) (hk : z < 0 ∨ (Z.2.1.b : Int) ≤ z) : Cal v mX10_lumpedTime 7 1 6 [.ref x, .int (zI z), .int w1, .int w2] h top fX (xX iobE h top) := by
  have hx := K.1.1
  have hg := K.1.2.1
  obtain ⟨L0, gn0, fn0, hp0, -⟩ := K.2.1.2.1
  refine Cal.ofJ (by decide +kernel) rfl (Nat.le_of_ble_eq_true rfl) fun hz0 => ?_
  refine r_ls [some (.ref x), some (.int (zI z)), some (.int w1), some (.int w2)] rfl ?_
  refine r_aload_n (pc := 0) (i := 0) (tX10_lumpedTime.at 0 rfl) rfl rfl ?_
  refine r_iload_n (pc := 1) (i := 1) (tX10_lumpedTime.at 1 rfl) rfl rfl ?_
  refine r_callVX (M' := mX10_requireBlock) (pc := 2) (tX10_lumpedTime.at 2 rfl) ml_X10_229 rfl rfl mw_X10_requireBlock ⟨by decide, by decide⟩ (hx) rfl rfl (c_reqB1 hx hg hz hk (by omega)) rfl rfl (Nat.le_of_ble_eq_true rfl) (Nat.le_of_ble_eq_true rfl) (Nat.le_of_ble_eq_true rfl) (Nat.le_of_ble_eq_true rfl) (Nat.le_of_ble_eq_true rfl) (fun rv h2 top2 z => z.elim) (fun E h2 top2 z => ?_)
  exact z
theorem x_lumpedTime_1 {w2 : Int32} (K : okX v h x Z) (okg : okG Z.2.1) (hb : Z.2.1.b ≤ 6) {i : Nat} (hi : i < Z.2.1.b) {z : Int} (hz : inI z) (hk : z < 0 ∨ (Z.2.1.b : Int) ≤ z) : Cal v mX10_lumpedTime 7 1 6 [.ref x, .int (nI i), .int (zI z), .int w2] h top fX (xX iobE h top) := by
  have hx := K.1.1
  have hg := K.1.2.1
  obtain ⟨L0, gn0, fn0, hp0, -⟩ := K.2.1.2.1
  refine Cal.ofJ (by decide +kernel) rfl (Nat.le_of_ble_eq_true rfl) fun hz0 => ?_
  refine r_ls [some (.ref x), some (.int (nI i)), some (.int (zI z)), some (.int w2)] rfl ?_
  refine r_aload_n (pc := 0) (i := 0) (tX10_lumpedTime.at 0 rfl) rfl rfl ?_
  refine r_iload_n (pc := 1) (i := 1) (tX10_lumpedTime.at 1 rfl) rfl rfl ?_
  refine r_callV (M' := mX10_requireBlock) (pc := 2) (tX10_lumpedTime.at 2 rfl) ml_X10_229 rfl mw_X10_requireBlock ⟨by decide, by decide⟩ (hx) rfl rfl (c_reqB0 hx hg hi (by omega)) rfl rfl (Nat.le_of_ble_eq_true rfl) (Nat.le_of_ble_eq_true rfl) (Nat.le_of_ble_eq_true rfl) ?_
  rintro _ _ _ ⟨rfl, rfl, rfl⟩
  refine r_aload_n (pc := 5) (i := 0) (tX10_lumpedTime.at 3 rfl) rfl rfl ?_
  refine r_iload_n (pc := 6) (i := 2) (tX10_lumpedTime.at 4 rfl) rfl rfl ?_
  refine r_callVX (M' := mX10_requireBlock) (pc := 7) (tX10_lumpedTime.at 5 rfl) ml_X10_229 rfl rfl mw_X10_requireBlock ⟨by decide, by decide⟩ (hx) rfl rfl (c_reqB1 hx hg hz hk (by omega)) rfl rfl (Nat.le_of_ble_eq_true rfl) (Nat.le_of_ble_eq_true rfl) (Nat.le_of_ble_eq_true rfl) (Nat.le_of_ble_eq_true rfl) (Nat.le_of_ble_eq_true rfl) (fun rv h2 top2 z => z.elim) (fun E h2 top2 z => ?_)
  exact z
theorem x_lumpedTime_2 {w2 : Int32} (K : okX v h x Z) (okg : okG Z.2.1) (hb : Z.2.1.b ≤ 6) {i : Nat} (hi : i < Z.2.1.b) {j : Nat} (hj : j < Z.2.1.b) (hw : ptB Z.2.1 = true) : Cal v mX10_lumpedTime 7 1 6 [.ref x, .int (nI i), .int (nI j), .int w2] h top fX (xX isE' h top) := by
  have hx := K.1.1
  have hg := K.1.2.1
  obtain ⟨L0, gn0, fn0, hp0, -⟩ := K.2.1.2.1
  refine Cal.ofJ (by decide +kernel) rfl (Nat.le_of_ble_eq_true rfl) fun hz0 => ?_
  refine r_ls [some (.ref x), some (.int (nI i)), some (.int (nI j)), some (.int w2)] rfl ?_
  refine r_aload_n (pc := 0) (i := 0) (tX10_lumpedTime.at 0 rfl) rfl rfl ?_
  refine r_iload_n (pc := 1) (i := 1) (tX10_lumpedTime.at 1 rfl) rfl rfl ?_
  refine r_callV (M' := mX10_requireBlock) (pc := 2) (tX10_lumpedTime.at 2 rfl) ml_X10_229 rfl mw_X10_requireBlock ⟨by decide, by decide⟩ (hx) rfl rfl (c_reqB0 hx hg hi (by omega)) rfl rfl (Nat.le_of_ble_eq_true rfl) (Nat.le_of_ble_eq_true rfl) (Nat.le_of_ble_eq_true rfl) ?_
  rintro _ _ _ ⟨rfl, rfl, rfl⟩
  refine r_aload_n (pc := 5) (i := 0) (tX10_lumpedTime.at 3 rfl) rfl rfl ?_
  refine r_iload_n (pc := 6) (i := 2) (tX10_lumpedTime.at 4 rfl) rfl rfl ?_
  refine r_callV (M' := mX10_requireBlock) (pc := 7) (tX10_lumpedTime.at 5 rfl) ml_X10_229 rfl mw_X10_requireBlock ⟨by decide, by decide⟩ (hx) rfl rfl (c_reqB0 hx hg hj (by omega)) rfl rfl (Nat.le_of_ble_eq_true rfl) (Nat.le_of_ble_eq_true rfl) (Nat.le_of_ble_eq_true rfl) ?_
  rintro _ _ _ ⟨rfl, rfl, rfl⟩
  refine r_aload_n (pc := 10) (i := 0) (tX10_lumpedTime.at 6 rfl) rfl rfl ?_
  refine r_callVX (M' := mX10_requireLumpable) (pc := 11) (tX10_lumpedTime.at 7 rfl) ml_X10_232 rfl rfl mw_X10_requireLumpable ⟨by decide, by decide⟩ (hx) rfl rfl (c_reqLu1 hx hp0 hg okg hb hw) rfl rfl (Nat.le_of_ble_eq_true rfl) (Nat.le_of_ble_eq_true rfl) (Nat.le_of_ble_eq_true rfl) (Nat.le_of_ble_eq_true rfl) (Nat.le_of_ble_eq_true rfl) (fun rv h2 top2 z => z.elim) (fun E h2 top2 z => ?_)
  exact z
theorem x_after_0 {w1 : Int32} {w2 : Int32} (K : okX v h x Z) (okg : okG Z.2.1) {z : Int} (hz : inI z) (hk : z < 0 ∨ (Z.2.1.n : Int) ≤ z) : Cal v mX10_after 7 1 6 [.ref x, .int (zI z), .int w1, .int w2] h top fX (xX iobE h top) := by
  have hx := K.1.1
  have hg := K.1.2.1
  obtain ⟨L0, gn0, fn0, hp0, -⟩ := K.2.1.2.1
  refine Cal.ofJ (by decide +kernel) rfl (Nat.le_of_ble_eq_true rfl) fun hz0 => ?_
  refine r_ls [some (.ref x), some (.int (zI z)), some (.int w1), some (.int w2)] rfl ?_
  refine r_aload_n (pc := 0) (i := 0) (tX10_after.at 0 rfl) rfl rfl ?_
  refine r_iload_n (pc := 1) (i := 1) (tX10_after.at 1 rfl) rfl rfl ?_
  refine r_callVX (M' := mX10_requireVertex) (pc := 2) (tX10_after.at 2 rfl) ml_X10_150 rfl rfl mw_X10_requireVertex ⟨by decide, by decide⟩ (hx) rfl rfl (c_reqV1 hx hg hz hk (by have := okg.1; omega)) rfl rfl (Nat.le_of_ble_eq_true rfl) (Nat.le_of_ble_eq_true rfl) (Nat.le_of_ble_eq_true rfl) (Nat.le_of_ble_eq_true rfl) (Nat.le_of_ble_eq_true rfl) (fun rv h2 top2 z => z.elim) (fun E h2 top2 z => ?_)
  exact z
theorem x_after_1 {w2 : Int32} (K : okX v h x Z) (okg : okG Z.2.1) {i : Nat} (hi : i < Z.2.1.n) {z : Int} (hz : inI z) (hk : z < 0 ∨ (Z.2.1.n : Int) ≤ z) : Cal v mX10_after 7 1 6 [.ref x, .int (nI i), .int (zI z), .int w2] h top fX (xX iobE h top) := by
  have hx := K.1.1
  have hg := K.1.2.1
  obtain ⟨L0, gn0, fn0, hp0, -⟩ := K.2.1.2.1
  refine Cal.ofJ (by decide +kernel) rfl (Nat.le_of_ble_eq_true rfl) fun hz0 => ?_
  refine r_ls [some (.ref x), some (.int (nI i)), some (.int (zI z)), some (.int w2)] rfl ?_
  refine r_aload_n (pc := 0) (i := 0) (tX10_after.at 0 rfl) rfl rfl ?_
  refine r_iload_n (pc := 1) (i := 1) (tX10_after.at 1 rfl) rfl rfl ?_
  refine r_callV (M' := mX10_requireVertex) (pc := 2) (tX10_after.at 2 rfl) ml_X10_150 rfl mw_X10_requireVertex ⟨by decide, by decide⟩ (hx) rfl rfl (c_reqV0 hx hg hi (by have := okg.1; omega)) rfl rfl (Nat.le_of_ble_eq_true rfl) (Nat.le_of_ble_eq_true rfl) (Nat.le_of_ble_eq_true rfl) ?_
  rintro _ _ _ ⟨rfl, rfl, rfl⟩
  refine r_aload_n (pc := 5) (i := 0) (tX10_after.at 3 rfl) rfl rfl ?_
  refine r_iload_n (pc := 6) (i := 2) (tX10_after.at 4 rfl) rfl rfl ?_
  refine r_callVX (M' := mX10_requireVertex) (pc := 7) (tX10_after.at 5 rfl) ml_X10_150 rfl rfl mw_X10_requireVertex ⟨by decide, by decide⟩ (hx) rfl rfl (c_reqV1 hx hg hz hk (by have := okg.1; omega)) rfl rfl (Nat.le_of_ble_eq_true rfl) (Nat.le_of_ble_eq_true rfl) (Nat.le_of_ble_eq_true rfl) (Nat.le_of_ble_eq_true rfl) (Nat.le_of_ble_eq_true rfl) (fun rv h2 top2 z => z.elim) (fun E h2 top2 z => ?_)
  exact z
theorem x_after_2 (K : okX v h x Z) (okg : okG Z.2.1) {i : Nat} (hi : i < Z.2.1.n) {j : Nat} (hj : j < Z.2.1.n) {z : Int} (hz : inI z) (hk : z < 0 ∨ 100 < z) : Cal v mX10_after 7 1 6 [.ref x, .int (nI i), .int (nI j), .int (zI z)] h top fX (xX iaE h top) := by
  have hx := K.1.1
  have hg := K.1.2.1
  obtain ⟨L0, gn0, fn0, hp0, -⟩ := K.2.1.2.1
  refine Cal.ofJ (by decide +kernel) rfl (Nat.le_of_ble_eq_true rfl) fun hz0 => ?_
  refine r_ls [some (.ref x), some (.int (nI i)), some (.int (nI j)), some (.int (zI z))] rfl ?_
  refine r_aload_n (pc := 0) (i := 0) (tX10_after.at 0 rfl) rfl rfl ?_
  refine r_iload_n (pc := 1) (i := 1) (tX10_after.at 1 rfl) rfl rfl ?_
  refine r_callV (M' := mX10_requireVertex) (pc := 2) (tX10_after.at 2 rfl) ml_X10_150 rfl mw_X10_requireVertex ⟨by decide, by decide⟩ (hx) rfl rfl (c_reqV0 hx hg hi (by have := okg.1; omega)) rfl rfl (Nat.le_of_ble_eq_true rfl) (Nat.le_of_ble_eq_true rfl) (Nat.le_of_ble_eq_true rfl) ?_
  rintro _ _ _ ⟨rfl, rfl, rfl⟩
  refine r_aload_n (pc := 5) (i := 0) (tX10_after.at 3 rfl) rfl rfl ?_
  refine r_iload_n (pc := 6) (i := 2) (tX10_after.at 4 rfl) rfl rfl ?_
  refine r_callV (M' := mX10_requireVertex) (pc := 7) (tX10_after.at 5 rfl) ml_X10_150 rfl mw_X10_requireVertex ⟨by decide, by decide⟩ (hx) rfl rfl (c_reqV0 hx hg hj (by have := okg.1; omega)) rfl rfl (Nat.le_of_ble_eq_true rfl) (Nat.le_of_ble_eq_true rfl) (Nat.le_of_ble_eq_true rfl) ?_
  rintro _ _ _ ⟨rfl, rfl, rfl⟩
  have hz1 := hz.1
  have hz2 := hz.2
  refine r_iload_n (pc := 10) (i := 3) (tX10_after.at 6 rfl) rfl rfl ?_
  refine r_if_ltZ (pc := 11) 20 (tX10_after.at 7 rfl) (by decide) hz (fun c => ?_) (fun c => ?_)
  · refine r_throwW 18 (pc := 20) rfl xw_X10_96 rfl (tX10_after.at 11 rfl) (tX10_after.at 12 rfl) (tX10_after.at 13 rfl) (tX10_after.at 14 rfl) (tX10_after.at 15 rfl) (Nat.le_of_ble_eq_true rfl) (Nat.le_of_ble_eq_true rfl) (Nat.le_of_ble_eq_true rfl) (Nat.le_of_ble_eq_true rfl) (Nat.le_of_ble_eq_true rfl) (Nat.le_of_ble_eq_true rfl) (fun top2 ht2 => ?_)
    exact ⟨rfl, rfl, ht2⟩
  · refine r_iload_n (pc := 14) (i := 3) (tX10_after.at 8 rfl) rfl rfl ?_
    refine r_bipush (pc := 15) (w := nI 100) (tX10_after.at 9 rfl) (by decide) ?_
    rw [show nI 100 = zI 100 from rfl]
    refine r_icmp_leZ (pc := 17) 31 (tX10_after.at 10 rfl) (by decide) ⟨by omega, by omega⟩ ⟨by omega, by omega⟩ (fun c => by omega) (fun _ => ?_)
    refine r_throwW 18 (pc := 20) rfl xw_X10_96 rfl (tX10_after.at 11 rfl) (tX10_after.at 12 rfl) (tX10_after.at 13 rfl) (tX10_after.at 14 rfl) (tX10_after.at 15 rfl) (Nat.le_of_ble_eq_true rfl) (Nat.le_of_ble_eq_true rfl) (Nat.le_of_ble_eq_true rfl) (Nat.le_of_ble_eq_true rfl) (Nat.le_of_ble_eq_true rfl) (Nat.le_of_ble_eq_true rfl) (fun top2 ht2 => ?_)
    exact ⟨rfl, rfl, ht2⟩
theorem x_walk_0 {w1 : Int32} {w2 : Int32} {w3 : Int32} (K : okX v h x Z) (okg : okG Z.2.1) {z : Int} (hz : inI z) (hk : z < 0 ∨ (Z.2.1.n : Int) ≤ z) : Cal v mX10_walk 7 1 6 [.ref x, .int (zI z), .int w1, .int w2, .int w3] h top fX (xX iobE h top) := by
  have hx := K.1.1
  have hg := K.1.2.1
  obtain ⟨L0, gn0, fn0, hp0, -⟩ := K.2.1.2.1
  refine Cal.ofJ (by decide +kernel) rfl (Nat.le_of_ble_eq_true rfl) fun hz0 => ?_
  refine r_ls [some (.ref x), some (.int (zI z)), some (.int w1), some (.int w2), some (.int w3)] rfl ?_
  refine r_aload_n (pc := 0) (i := 0) (tX10_walk.at 0 rfl) rfl rfl ?_
  refine r_iload_n (pc := 1) (i := 1) (tX10_walk.at 1 rfl) rfl rfl ?_
  refine r_callVX (M' := mX10_requireVertex) (pc := 2) (tX10_walk.at 2 rfl) ml_X10_150 rfl rfl mw_X10_requireVertex ⟨by decide, by decide⟩ (hx) rfl rfl (c_reqV1 hx hg hz hk (by have := okg.1; omega)) rfl rfl (Nat.le_of_ble_eq_true rfl) (Nat.le_of_ble_eq_true rfl) (Nat.le_of_ble_eq_true rfl) (Nat.le_of_ble_eq_true rfl) (Nat.le_of_ble_eq_true rfl) (fun rv h2 top2 z => z.elim) (fun E h2 top2 z => ?_)
  exact z
theorem x_walk_1 {w2 : Int32} {w3 : Int32} (K : okX v h x Z) (okg : okG Z.2.1) {i : Nat} (hi : i < Z.2.1.n) {z : Int} (hz : inI z) (hk : z < 0 ∨ 1000 < z) : Cal v mX10_walk 7 1 6 [.ref x, .int (nI i), .int (zI z), .int w2, .int w3] h top fX (xX iaE h top) := by
  have hx := K.1.1
  have hg := K.1.2.1
  obtain ⟨L0, gn0, fn0, hp0, -⟩ := K.2.1.2.1
  refine Cal.ofJ (by decide +kernel) rfl (Nat.le_of_ble_eq_true rfl) fun hz0 => ?_
  refine r_ls [some (.ref x), some (.int (nI i)), some (.int (zI z)), some (.int w2), some (.int w3)] rfl ?_
  refine r_aload_n (pc := 0) (i := 0) (tX10_walk.at 0 rfl) rfl rfl ?_
  refine r_iload_n (pc := 1) (i := 1) (tX10_walk.at 1 rfl) rfl rfl ?_
  refine r_callV (M' := mX10_requireVertex) (pc := 2) (tX10_walk.at 2 rfl) ml_X10_150 rfl mw_X10_requireVertex ⟨by decide, by decide⟩ (hx) rfl rfl (c_reqV0 hx hg hi (by have := okg.1; omega)) rfl rfl (Nat.le_of_ble_eq_true rfl) (Nat.le_of_ble_eq_true rfl) (Nat.le_of_ble_eq_true rfl) ?_
  rintro _ _ _ ⟨rfl, rfl, rfl⟩
  have hz1 := hz.1
  have hz2 := hz.2
  refine r_iload_n (pc := 5) (i := 2) (tX10_walk.at 3 rfl) rfl rfl ?_
  refine r_if_ltZ (pc := 6) 16 (tX10_walk.at 4 rfl) (by decide) hz (fun c => ?_) (fun c => ?_)
  · refine r_throwW 19 (pc := 16) rfl xw_X10_96 rfl (tX10_walk.at 8 rfl) (tX10_walk.at 9 rfl) (tX10_walk.at 10 rfl) (tX10_walk.at 11 rfl) (tX10_walk.at 12 rfl) (Nat.le_of_ble_eq_true rfl) (Nat.le_of_ble_eq_true rfl) (Nat.le_of_ble_eq_true rfl) (Nat.le_of_ble_eq_true rfl) (Nat.le_of_ble_eq_true rfl) (Nat.le_of_ble_eq_true rfl) (fun top2 ht2 => ?_)
    exact ⟨rfl, rfl, ht2⟩
  · refine r_iload_n (pc := 9) (i := 2) (tX10_walk.at 5 rfl) rfl rfl ?_
    refine r_sipush (pc := 10) (w := nI 1000) (tX10_walk.at 6 rfl) (by decide) ?_
    rw [show nI 1000 = zI 1000 from rfl]
    refine r_icmp_leZ (pc := 13) 27 (tX10_walk.at 7 rfl) (by decide) ⟨by omega, by omega⟩ ⟨by omega, by omega⟩ (fun c => by omega) (fun _ => ?_)
    refine r_throwW 19 (pc := 16) rfl xw_X10_96 rfl (tX10_walk.at 8 rfl) (tX10_walk.at 9 rfl) (tX10_walk.at 10 rfl) (tX10_walk.at 11 rfl) (tX10_walk.at 12 rfl) (Nat.le_of_ble_eq_true rfl) (Nat.le_of_ble_eq_true rfl) (Nat.le_of_ble_eq_true rfl) (Nat.le_of_ble_eq_true rfl) (Nat.le_of_ble_eq_true rfl) (Nat.le_of_ble_eq_true rfl) (fun top2 ht2 => ?_)
    exact ⟨rfl, rfl, ht2⟩
theorem x_walk_2 {w3 : Int32} (K : okX v h x Z) (okg : okG Z.2.1) {i : Nat} (hi : i < Z.2.1.n) {j : Nat} (hj : j ≤ 1000) {z : Int} (hz : inI z) (hk : z < 0) : Cal v mX10_walk 7 1 6 [.ref x, .int (nI i), .int (nI j), .int (zI z), .int w3] h top fX (xX iaE h top) := by
  have hx := K.1.1
  have hg := K.1.2.1
  obtain ⟨L0, gn0, fn0, hp0, -⟩ := K.2.1.2.1
  refine Cal.ofJ (by decide +kernel) rfl (Nat.le_of_ble_eq_true rfl) fun hz0 => ?_
  refine r_ls [some (.ref x), some (.int (nI i)), some (.int (nI j)), some (.int (zI z)), some (.int w3)] rfl ?_
  refine r_aload_n (pc := 0) (i := 0) (tX10_walk.at 0 rfl) rfl rfl ?_
  refine r_iload_n (pc := 1) (i := 1) (tX10_walk.at 1 rfl) rfl rfl ?_
  refine r_callV (M' := mX10_requireVertex) (pc := 2) (tX10_walk.at 2 rfl) ml_X10_150 rfl mw_X10_requireVertex ⟨by decide, by decide⟩ (hx) rfl rfl (c_reqV0 hx hg hi (by have := okg.1; omega)) rfl rfl (Nat.le_of_ble_eq_true rfl) (Nat.le_of_ble_eq_true rfl) (Nat.le_of_ble_eq_true rfl) ?_
  rintro _ _ _ ⟨rfl, rfl, rfl⟩
  refine r_iload_n (pc := 5) (i := 2) (tX10_walk.at 3 rfl) rfl rfl ?_
  refine r_if_ltN (pc := 6) 16 (tX10_walk.at 4 rfl) (by decide) (by omega) ?_
  refine r_iload_n (pc := 9) (i := 2) (tX10_walk.at 5 rfl) rfl rfl ?_
  refine r_sipush (pc := 10) (w := nI 1000) (tX10_walk.at 6 rfl) (by decide) ?_
  refine r_icmp_leN (pc := 13) 27 (tX10_walk.at 7 rfl) (by decide) (by omega) (by omega) (fun _ => ?_) (fun c => by omega)
  refine r_iload_n (pc := 27) (i := 3) (tX10_walk.at 13 rfl) rfl rfl ?_
  refine r_if_geZ (pc := 28) 42 (tX10_walk.at 14 rfl) (by decide) hz (fun c => by omega) (fun _ => ?_)
  refine r_throwW 20 (pc := 31) rfl xw_X10_96 rfl (tX10_walk.at 15 rfl) (tX10_walk.at 16 rfl) (tX10_walk.at 17 rfl) (tX10_walk.at 18 rfl) (tX10_walk.at 19 rfl) (Nat.le_of_ble_eq_true rfl) (Nat.le_of_ble_eq_true rfl) (Nat.le_of_ble_eq_true rfl) (Nat.le_of_ble_eq_true rfl) (Nat.le_of_ble_eq_true rfl) (Nat.le_of_ble_eq_true rfl) (fun top2 ht2 => ?_)
  exact ⟨rfl, rfl, ht2⟩
theorem x_walk_3 (K : okX v h x Z) (okg : okG Z.2.1) {i : Nat} (hi : i < Z.2.1.n) {j : Nat} (hj : j ≤ 1000) {k : Nat} (hk2 : k < 2147483648) {z : Int} (hz : inI z) (hk : z < 0 ∨ 3 < z) : Cal v mX10_walk 7 1 6 [.ref x, .int (nI i), .int (nI j), .int (nI k), .int (zI z)] h top fX (xX iaE h top) := by
  have hx := K.1.1
  have hg := K.1.2.1
  obtain ⟨L0, gn0, fn0, hp0, -⟩ := K.2.1.2.1
  refine Cal.ofJ (by decide +kernel) rfl (Nat.le_of_ble_eq_true rfl) fun hz0 => ?_
  refine r_ls [some (.ref x), some (.int (nI i)), some (.int (nI j)), some (.int (nI k)), some (.int (zI z))] rfl ?_
  refine r_aload_n (pc := 0) (i := 0) (tX10_walk.at 0 rfl) rfl rfl ?_
  refine r_iload_n (pc := 1) (i := 1) (tX10_walk.at 1 rfl) rfl rfl ?_
  refine r_callV (M' := mX10_requireVertex) (pc := 2) (tX10_walk.at 2 rfl) ml_X10_150 rfl mw_X10_requireVertex ⟨by decide, by decide⟩ (hx) rfl rfl (c_reqV0 hx hg hi (by have := okg.1; omega)) rfl rfl (Nat.le_of_ble_eq_true rfl) (Nat.le_of_ble_eq_true rfl) (Nat.le_of_ble_eq_true rfl) ?_
  rintro _ _ _ ⟨rfl, rfl, rfl⟩
  refine r_iload_n (pc := 5) (i := 2) (tX10_walk.at 3 rfl) rfl rfl ?_
  refine r_if_ltN (pc := 6) 16 (tX10_walk.at 4 rfl) (by decide) (by omega) ?_
  refine r_iload_n (pc := 9) (i := 2) (tX10_walk.at 5 rfl) rfl rfl ?_
  refine r_sipush (pc := 10) (w := nI 1000) (tX10_walk.at 6 rfl) (by decide) ?_
  refine r_icmp_leN (pc := 13) 27 (tX10_walk.at 7 rfl) (by decide) (by omega) (by omega) (fun _ => ?_) (fun c => by omega)
  refine r_iload_n (pc := 27) (i := 3) (tX10_walk.at 13 rfl) rfl rfl ?_
  refine r_if_geN (pc := 28) 42 (tX10_walk.at 14 rfl) (by decide) (by omega) ?_
  have hz1 := hz.1
  have hz2 := hz.2
  refine r_iload (pc := 42) (i := 4) (tX10_walk.at 20 rfl) rfl ?_
  refine r_if_ltZ (pc := 44) 53 (tX10_walk.at 21 rfl) (by decide) hz (fun c => ?_) (fun c => ?_)
  · refine r_throwW 21 (pc := 53) rfl xw_X10_96 rfl (tX10_walk.at 25 rfl) (tX10_walk.at 26 rfl) (tX10_walk.at 27 rfl) (tX10_walk.at 28 rfl) (tX10_walk.at 29 rfl) (Nat.le_of_ble_eq_true rfl) (Nat.le_of_ble_eq_true rfl) (Nat.le_of_ble_eq_true rfl) (Nat.le_of_ble_eq_true rfl) (Nat.le_of_ble_eq_true rfl) (Nat.le_of_ble_eq_true rfl) (fun top2 ht2 => ?_)
    exact ⟨rfl, rfl, ht2⟩
  · refine r_iload (pc := 47) (i := 4) (tX10_walk.at 22 rfl) rfl ?_
    refine r_iconst (pc := 49) (w := nI 3) (tX10_walk.at 23 rfl) (by decide) ?_
    rw [show nI 3 = zI 3 from rfl]
    refine r_icmp_leZ (pc := 50) 64 (tX10_walk.at 24 rfl) (by decide) ⟨by omega, by omega⟩ ⟨by omega, by omega⟩ (fun c => by omega) (fun _ => ?_)
    refine r_throwW 21 (pc := 53) rfl xw_X10_96 rfl (tX10_walk.at 25 rfl) (tX10_walk.at 26 rfl) (tX10_walk.at 27 rfl) (tX10_walk.at 28 rfl) (tX10_walk.at 29 rfl) (Nat.le_of_ble_eq_true rfl) (Nat.le_of_ble_eq_true rfl) (Nat.le_of_ble_eq_true rfl) (Nat.le_of_ble_eq_true rfl) (Nat.le_of_ble_eq_true rfl) (Nat.le_of_ble_eq_true rfl) (fun top2 ht2 => ?_)
    exact ⟨rfl, rfl, ht2⟩
theorem x_setWeight_0 {w1 : Int32} (K : okX v h x Z) (okg : okG Z.2.1) {z : Int} (hz : inI z) (hk : z < 0 ∨ (Z.2.1.e : Int) ≤ z) : Cal v mX10_setWeight 7 1 6 [.ref x, .int (zI z), .int w1] h top fX (xX iobE h top) := by
  have hx := K.1.1
  have hg := K.1.2.1
  obtain ⟨L0, gn0, fn0, hp0, -⟩ := K.2.1.2.1
  refine Cal.ofJ (by decide +kernel) rfl (Nat.le_of_ble_eq_true rfl) fun hz0 => ?_
  refine r_ls [some (.ref x), some (.int (zI z)), some (.int w1), none, none, none] rfl ?_
  refine r_aload_n (pc := 0) (i := 0) (tX10_setWeight.at 0 rfl) rfl rfl ?_
  refine r_iload_n (pc := 1) (i := 1) (tX10_setWeight.at 1 rfl) rfl rfl ?_
  refine r_callVX (M' := mX10_requireEdge) (pc := 2) (tX10_setWeight.at 2 rfl) ml_X10_130 rfl rfl mw_X10_requireEdge ⟨by decide, by decide⟩ (hx) rfl rfl (c_reqE1 hx hg hz hk (by have := okg.2.1; omega)) rfl rfl (Nat.le_of_ble_eq_true rfl) (Nat.le_of_ble_eq_true rfl) (Nat.le_of_ble_eq_true rfl) (Nat.le_of_ble_eq_true rfl) (Nat.le_of_ble_eq_true rfl) (fun rv h2 top2 z => z.elim) (fun E h2 top2 z => ?_)
  exact z
theorem x_setWeight_1 (K : okX v h x Z) (okg : okG Z.2.1) {i : Nat} (hi : i < Z.2.1.e) {z : Int} (hz : inI z) (hk : z < 1 ∨ 9 < z) : Cal v mX10_setWeight 7 1 6 [.ref x, .int (nI i), .int (zI z)] h top fX (xX iaE h top) := by
  have hx := K.1.1
  have hg := K.1.2.1
  obtain ⟨L0, gn0, fn0, hp0, -⟩ := K.2.1.2.1
  refine Cal.ofJ (by decide +kernel) rfl (Nat.le_of_ble_eq_true rfl) fun hz0 => ?_
  refine r_ls [some (.ref x), some (.int (nI i)), some (.int (zI z)), none, none, none] rfl ?_
  refine r_aload_n (pc := 0) (i := 0) (tX10_setWeight.at 0 rfl) rfl rfl ?_
  refine r_iload_n (pc := 1) (i := 1) (tX10_setWeight.at 1 rfl) rfl rfl ?_
  refine r_callV (M' := mX10_requireEdge) (pc := 2) (tX10_setWeight.at 2 rfl) ml_X10_130 rfl mw_X10_requireEdge ⟨by decide, by decide⟩ (hx) rfl rfl (c_reqE0 hx hg hi (by have := okg.2.1; omega)) rfl rfl (Nat.le_of_ble_eq_true rfl) (Nat.le_of_ble_eq_true rfl) (Nat.le_of_ble_eq_true rfl) ?_
  rintro _ _ _ ⟨rfl, rfl, rfl⟩
  refine r_aload_n (pc := 5) (i := 0) (tX10_setWeight.at 3 rfl) rfl rfl ?_
  refine r_iload_n (pc := 6) (i := 2) (tX10_setWeight.at 4 rfl) rfl rfl ?_
  refine r_callVX (M' := mX10_requireWeight) (pc := 7) (tX10_setWeight.at 5 rfl) ml_X10_278 rfl rfl mw_X10_requireWeight ⟨by decide, by decide⟩ (hx) rfl rfl (c_reqW1 hz hk) rfl rfl (Nat.le_of_ble_eq_true rfl) (Nat.le_of_ble_eq_true rfl) (Nat.le_of_ble_eq_true rfl) (Nat.le_of_ble_eq_true rfl) (Nat.le_of_ble_eq_true rfl) (fun rv h2 top2 z => z.elim) (fun E h2 top2 z => ?_)
  exact z
theorem x_addEdge_0 {w1 : Int32} {w2 : Int32} (K : okX v h x Z) (okg : okG Z.2.1) {z : Int} (hz : inI z) (hk : z < 0 ∨ (Z.2.1.n : Int) ≤ z) : Cal v mX10_addEdge 7 1 6 [.ref x, .int (zI z), .int w1, .int w2] h top fX (xX iobE h top) := by
  have hx := K.1.1
  have hg := K.1.2.1
  obtain ⟨L0, gn0, fn0, hp0, -⟩ := K.2.1.2.1
  refine Cal.ofJ (by decide +kernel) rfl (Nat.le_of_ble_eq_true rfl) fun hz0 => ?_
  refine r_ls [some (.ref x), some (.int (zI z)), some (.int w1), some (.int w2)] rfl ?_
  refine r_aload_n (pc := 0) (i := 0) (tX10_addEdge.at 0 rfl) rfl rfl ?_
  refine r_iload_n (pc := 1) (i := 1) (tX10_addEdge.at 1 rfl) rfl rfl ?_
  refine r_callVX (M' := mX10_requireVertex) (pc := 2) (tX10_addEdge.at 2 rfl) ml_X10_150 rfl rfl mw_X10_requireVertex ⟨by decide, by decide⟩ (hx) rfl rfl (c_reqV1 hx hg hz hk (by have := okg.1; omega)) rfl rfl (Nat.le_of_ble_eq_true rfl) (Nat.le_of_ble_eq_true rfl) (Nat.le_of_ble_eq_true rfl) (Nat.le_of_ble_eq_true rfl) (Nat.le_of_ble_eq_true rfl) (fun rv h2 top2 z => z.elim) (fun E h2 top2 z => ?_)
  exact z
theorem x_addEdge_1 {w2 : Int32} (K : okX v h x Z) (okg : okG Z.2.1) {i : Nat} (hi : i < Z.2.1.n) {z : Int} (hz : inI z) (hk : z < 0 ∨ (Z.2.1.n : Int) ≤ z) : Cal v mX10_addEdge 7 1 6 [.ref x, .int (nI i), .int (zI z), .int w2] h top fX (xX iobE h top) := by
  have hx := K.1.1
  have hg := K.1.2.1
  obtain ⟨L0, gn0, fn0, hp0, -⟩ := K.2.1.2.1
  refine Cal.ofJ (by decide +kernel) rfl (Nat.le_of_ble_eq_true rfl) fun hz0 => ?_
  refine r_ls [some (.ref x), some (.int (nI i)), some (.int (zI z)), some (.int w2)] rfl ?_
  refine r_aload_n (pc := 0) (i := 0) (tX10_addEdge.at 0 rfl) rfl rfl ?_
  refine r_iload_n (pc := 1) (i := 1) (tX10_addEdge.at 1 rfl) rfl rfl ?_
  refine r_callV (M' := mX10_requireVertex) (pc := 2) (tX10_addEdge.at 2 rfl) ml_X10_150 rfl mw_X10_requireVertex ⟨by decide, by decide⟩ (hx) rfl rfl (c_reqV0 hx hg hi (by have := okg.1; omega)) rfl rfl (Nat.le_of_ble_eq_true rfl) (Nat.le_of_ble_eq_true rfl) (Nat.le_of_ble_eq_true rfl) ?_
  rintro _ _ _ ⟨rfl, rfl, rfl⟩
  refine r_aload_n (pc := 5) (i := 0) (tX10_addEdge.at 3 rfl) rfl rfl ?_
  refine r_iload_n (pc := 6) (i := 2) (tX10_addEdge.at 4 rfl) rfl rfl ?_
  refine r_callVX (M' := mX10_requireVertex) (pc := 7) (tX10_addEdge.at 5 rfl) ml_X10_150 rfl rfl mw_X10_requireVertex ⟨by decide, by decide⟩ (hx) rfl rfl (c_reqV1 hx hg hz hk (by have := okg.1; omega)) rfl rfl (Nat.le_of_ble_eq_true rfl) (Nat.le_of_ble_eq_true rfl) (Nat.le_of_ble_eq_true rfl) (Nat.le_of_ble_eq_true rfl) (Nat.le_of_ble_eq_true rfl) (fun rv h2 top2 z => z.elim) (fun E h2 top2 z => ?_)
  exact z
theorem x_addEdge_2 {w2 : Int32} (K : okX v h x Z) (okg : okG Z.2.1) {i : Nat} (hi : i < Z.2.1.n) {j : Nat} (hj : j < Z.2.1.n) (hw : i = j) : Cal v mX10_addEdge 7 1 6 [.ref x, .int (nI i), .int (nI j), .int w2] h top fX (xX iaE h top) := by
  have hx := K.1.1
  have hg := K.1.2.1
  obtain ⟨L0, gn0, fn0, hp0, -⟩ := K.2.1.2.1
  refine Cal.ofJ (by decide +kernel) rfl (Nat.le_of_ble_eq_true rfl) fun hz0 => ?_
  refine r_ls [some (.ref x), some (.int (nI i)), some (.int (nI j)), some (.int w2)] rfl ?_
  refine r_aload_n (pc := 0) (i := 0) (tX10_addEdge.at 0 rfl) rfl rfl ?_
  refine r_iload_n (pc := 1) (i := 1) (tX10_addEdge.at 1 rfl) rfl rfl ?_
  refine r_callV (M' := mX10_requireVertex) (pc := 2) (tX10_addEdge.at 2 rfl) ml_X10_150 rfl mw_X10_requireVertex ⟨by decide, by decide⟩ (hx) rfl rfl (c_reqV0 hx hg hi (by have := okg.1; omega)) rfl rfl (Nat.le_of_ble_eq_true rfl) (Nat.le_of_ble_eq_true rfl) (Nat.le_of_ble_eq_true rfl) ?_
  rintro _ _ _ ⟨rfl, rfl, rfl⟩
  refine r_aload_n (pc := 5) (i := 0) (tX10_addEdge.at 3 rfl) rfl rfl ?_
  refine r_iload_n (pc := 6) (i := 2) (tX10_addEdge.at 4 rfl) rfl rfl ?_
  refine r_callV (M' := mX10_requireVertex) (pc := 7) (tX10_addEdge.at 5 rfl) ml_X10_150 rfl mw_X10_requireVertex ⟨by decide, by decide⟩ (hx) rfl rfl (c_reqV0 hx hg hj (by have := okg.1; omega)) rfl rfl (Nat.le_of_ble_eq_true rfl) (Nat.le_of_ble_eq_true rfl) (Nat.le_of_ble_eq_true rfl) ?_
  rintro _ _ _ ⟨rfl, rfl, rfl⟩
  have h6 := okg.1
  refine r_iload_n (pc := 10) (i := 1) (tX10_addEdge.at 6 rfl) rfl rfl ?_
  refine r_iload_n (pc := 11) (i := 2) (tX10_addEdge.at 7 rfl) rfl rfl ?_
  refine r_icmp_neN (pc := 12) 26 (tX10_addEdge.at 8 rfl) (by decide) (by omega) (by omega) (fun c => by omega) (fun _ => ?_)
  refine r_throwW 23 (pc := 15) rfl xw_X10_96 rfl (tX10_addEdge.at 9 rfl) (tX10_addEdge.at 10 rfl) (tX10_addEdge.at 11 rfl) (tX10_addEdge.at 12 rfl) (tX10_addEdge.at 13 rfl) (Nat.le_of_ble_eq_true rfl) (Nat.le_of_ble_eq_true rfl) (Nat.le_of_ble_eq_true rfl) (Nat.le_of_ble_eq_true rfl) (Nat.le_of_ble_eq_true rfl) (Nat.le_of_ble_eq_true rfl) (fun top2 ht2 => ?_)
  exact ⟨rfl, rfl, ht2⟩
theorem x_addEdge_3 (K : okX v h x Z) (okg : okG Z.2.1) {i : Nat} (hi : i < Z.2.1.n) {j : Nat} (hj : j < Z.2.1.n) (hne : i ≠ j) {z : Int} (hz : inI z) (hk : z < 1 ∨ 9 < z) : Cal v mX10_addEdge 7 1 6 [.ref x, .int (nI i), .int (nI j), .int (zI z)] h top fX (xX iaE h top) := by
  have hx := K.1.1
  have hg := K.1.2.1
  obtain ⟨L0, gn0, fn0, hp0, -⟩ := K.2.1.2.1
  refine Cal.ofJ (by decide +kernel) rfl (Nat.le_of_ble_eq_true rfl) fun hz0 => ?_
  refine r_ls [some (.ref x), some (.int (nI i)), some (.int (nI j)), some (.int (zI z))] rfl ?_
  refine r_aload_n (pc := 0) (i := 0) (tX10_addEdge.at 0 rfl) rfl rfl ?_
  refine r_iload_n (pc := 1) (i := 1) (tX10_addEdge.at 1 rfl) rfl rfl ?_
  refine r_callV (M' := mX10_requireVertex) (pc := 2) (tX10_addEdge.at 2 rfl) ml_X10_150 rfl mw_X10_requireVertex ⟨by decide, by decide⟩ (hx) rfl rfl (c_reqV0 hx hg hi (by have := okg.1; omega)) rfl rfl (Nat.le_of_ble_eq_true rfl) (Nat.le_of_ble_eq_true rfl) (Nat.le_of_ble_eq_true rfl) ?_
  rintro _ _ _ ⟨rfl, rfl, rfl⟩
  refine r_aload_n (pc := 5) (i := 0) (tX10_addEdge.at 3 rfl) rfl rfl ?_
  refine r_iload_n (pc := 6) (i := 2) (tX10_addEdge.at 4 rfl) rfl rfl ?_
  refine r_callV (M' := mX10_requireVertex) (pc := 7) (tX10_addEdge.at 5 rfl) ml_X10_150 rfl mw_X10_requireVertex ⟨by decide, by decide⟩ (hx) rfl rfl (c_reqV0 hx hg hj (by have := okg.1; omega)) rfl rfl (Nat.le_of_ble_eq_true rfl) (Nat.le_of_ble_eq_true rfl) (Nat.le_of_ble_eq_true rfl) ?_
  rintro _ _ _ ⟨rfl, rfl, rfl⟩
  have h6 := okg.1
  refine r_iload_n (pc := 10) (i := 1) (tX10_addEdge.at 6 rfl) rfl rfl ?_
  refine r_iload_n (pc := 11) (i := 2) (tX10_addEdge.at 7 rfl) rfl rfl ?_
  refine r_icmp_neN (pc := 12) 26 (tX10_addEdge.at 8 rfl) (by decide) (by omega) (by omega) (fun _ => ?_) (fun c => by omega)
  refine r_aload_n (pc := 26) (i := 0) (tX10_addEdge.at 14 rfl) rfl rfl ?_
  refine r_iload_n (pc := 27) (i := 3) (tX10_addEdge.at 15 rfl) rfl rfl ?_
  refine r_callVX (M' := mX10_requireWeight) (pc := 28) (tX10_addEdge.at 16 rfl) ml_X10_278 rfl rfl mw_X10_requireWeight ⟨by decide, by decide⟩ (hx) rfl rfl (c_reqW1 hz hk) rfl rfl (Nat.le_of_ble_eq_true rfl) (Nat.le_of_ble_eq_true rfl) (Nat.le_of_ble_eq_true rfl) (Nat.le_of_ble_eq_true rfl) (Nat.le_of_ble_eq_true rfl) (fun rv h2 top2 z => z.elim) (fun E h2 top2 z => ?_)
  exact z
theorem x_addEdge_4 (K : okX v h x Z) (okg : okG Z.2.1) {i : Nat} (hi : i < Z.2.1.n) {j : Nat} (hj : j < Z.2.1.n) (hne : i ≠ j) {k : Nat} (hk : 1 ≤ k ∧ k ≤ 9) (hw : Z.2.1.W (i * 6 + j) ≠ 0) : Cal v mX10_addEdge 7 1 6 [.ref x, .int (nI i), .int (nI j), .int (nI k)] h top fX (xX isE' h top) := by
  have hx := K.1.1
  have hg := K.1.2.1
  obtain ⟨L0, gn0, fn0, hp0, -⟩ := K.2.1.2.1
  refine Cal.ofJ (by decide +kernel) rfl (Nat.le_of_ble_eq_true rfl) fun hz0 => ?_
  refine r_ls [some (.ref x), some (.int (nI i)), some (.int (nI j)), some (.int (nI k))] rfl ?_
  refine r_aload_n (pc := 0) (i := 0) (tX10_addEdge.at 0 rfl) rfl rfl ?_
  refine r_iload_n (pc := 1) (i := 1) (tX10_addEdge.at 1 rfl) rfl rfl ?_
  refine r_callV (M' := mX10_requireVertex) (pc := 2) (tX10_addEdge.at 2 rfl) ml_X10_150 rfl mw_X10_requireVertex ⟨by decide, by decide⟩ (hx) rfl rfl (c_reqV0 hx hg hi (by have := okg.1; omega)) rfl rfl (Nat.le_of_ble_eq_true rfl) (Nat.le_of_ble_eq_true rfl) (Nat.le_of_ble_eq_true rfl) ?_
  rintro _ _ _ ⟨rfl, rfl, rfl⟩
  refine r_aload_n (pc := 5) (i := 0) (tX10_addEdge.at 3 rfl) rfl rfl ?_
  refine r_iload_n (pc := 6) (i := 2) (tX10_addEdge.at 4 rfl) rfl rfl ?_
  refine r_callV (M' := mX10_requireVertex) (pc := 7) (tX10_addEdge.at 5 rfl) ml_X10_150 rfl mw_X10_requireVertex ⟨by decide, by decide⟩ (hx) rfl rfl (c_reqV0 hx hg hj (by have := okg.1; omega)) rfl rfl (Nat.le_of_ble_eq_true rfl) (Nat.le_of_ble_eq_true rfl) (Nat.le_of_ble_eq_true rfl) ?_
  rintro _ _ _ ⟨rfl, rfl, rfl⟩
  have h6 := okg.1
  refine r_iload_n (pc := 10) (i := 1) (tX10_addEdge.at 6 rfl) rfl rfl ?_
  refine r_iload_n (pc := 11) (i := 2) (tX10_addEdge.at 7 rfl) rfl rfl ?_
  refine r_icmp_neN (pc := 12) 26 (tX10_addEdge.at 8 rfl) (by decide) (by omega) (by omega) (fun _ => ?_) (fun c => by omega)
  refine r_aload_n (pc := 26) (i := 0) (tX10_addEdge.at 14 rfl) rfl rfl ?_
  refine r_iload_n (pc := 27) (i := 3) (tX10_addEdge.at 15 rfl) rfl rfl ?_
  refine r_callV (M' := mX10_requireWeight) (pc := 28) (tX10_addEdge.at 16 rfl) ml_X10_278 rfl mw_X10_requireWeight ⟨by decide, by decide⟩ (hx) rfl rfl (c_reqW0 hk) rfl rfl (Nat.le_of_ble_eq_true rfl) (Nat.le_of_ble_eq_true rfl) (Nat.le_of_ble_eq_true rfl) ?_
  rintro _ _ _ ⟨rfl, rfl, rfl⟩
  have h9 := okg.2.2.2.2 (i * 6 + j) (by omega)
  refine r_aload_n (pc := 31) (i := 0) (tX10_addEdge.at 17 rfl) rfl rfl ?_
  refine r_get (pc := 32) (tX10_addEdge.at 18 rfl) gf_X10_16 (hx) rfl ?_
  refine r_iload_n (pc := 35) (i := 1) (tX10_addEdge.at 19 rfl) rfl rfl ?_
  refine r_iload_n (pc := 36) (i := 2) (tX10_addEdge.at 20 rfl) rfl rfl ?_
  refine r_callV (M' := mX3_weightBetween) (pc := 37) (tX10_addEdge.at 21 rfl) ml_X10_142 rfl mw_X3_weightBetween ⟨by decide, by decide⟩ (hg.1) rfl rfl (c_wb hg (by omega)) rfl rfl (Nat.le_of_ble_eq_true rfl) (Nat.le_of_ble_eq_true rfl) (Nat.le_of_ble_eq_true rfl) ?_
  rintro _ _ _ ⟨rfl, rfl, rfl⟩
  refine r_if_eqN (pc := 40) 54 (tX10_addEdge.at 22 rfl) (by decide) (by omega) (fun z => absurd z hw) (fun _ => ?_)
  refine r_throwW 24 (pc := 43) rfl xw_X10_248 rfl (tX10_addEdge.at 23 rfl) (tX10_addEdge.at 24 rfl) (tX10_addEdge.at 25 rfl) (tX10_addEdge.at 26 rfl) (tX10_addEdge.at 27 rfl) (Nat.le_of_ble_eq_true rfl) (Nat.le_of_ble_eq_true rfl) (Nat.le_of_ble_eq_true rfl) (Nat.le_of_ble_eq_true rfl) (Nat.le_of_ble_eq_true rfl) (Nat.le_of_ble_eq_true rfl) (fun top2 ht2 => ?_)
  exact ⟨rfl, rfl, ht2⟩
theorem x_removeEdge_0 (K : okX v h x Z) (okg : okG Z.2.1) {z : Int} (hz : inI z) (hk : z < 0 ∨ (Z.2.1.e : Int) ≤ z) : Cal v mX10_removeEdge 7 1 6 [.ref x, .int (zI z)] h top fX (xX iobE h top) := by
  have hx := K.1.1
  have hg := K.1.2.1
  obtain ⟨L0, gn0, fn0, hp0, -⟩ := K.2.1.2.1
  refine Cal.ofJ (by decide +kernel) rfl (Nat.le_of_ble_eq_true rfl) fun hz0 => ?_
  refine r_ls [some (.ref x), some (.int (zI z))] rfl ?_
  refine r_aload_n (pc := 0) (i := 0) (tX10_removeEdge.at 0 rfl) rfl rfl ?_
  refine r_iload_n (pc := 1) (i := 1) (tX10_removeEdge.at 1 rfl) rfl rfl ?_
  refine r_callVX (M' := mX10_requireEdge) (pc := 2) (tX10_removeEdge.at 2 rfl) ml_X10_130 rfl rfl mw_X10_requireEdge ⟨by decide, by decide⟩ (hx) rfl rfl (c_reqE1 hx hg hz hk (by have := okg.2.1; omega)) rfl rfl (Nat.le_of_ble_eq_true rfl) (Nat.le_of_ble_eq_true rfl) (Nat.le_of_ble_eq_true rfl) (Nat.le_of_ble_eq_true rfl) (Nat.le_of_ble_eq_true rfl) (fun rv h2 top2 z => z.elim) (fun E h2 top2 z => ?_)
  exact z
theorem x_setAbsorbing_0 {w1 : Int32} (K : okX v h x Z) (okg : okG Z.2.1) {z : Int} (hz : inI z) (hk : z < 0 ∨ (Z.2.1.n : Int) ≤ z) : Cal v mX10_setAbsorbing 7 1 6 [.ref x, .int (zI z), .int w1] h top fX (xX iobE h top) := by
  have hx := K.1.1
  have hg := K.1.2.1
  obtain ⟨L0, gn0, fn0, hp0, -⟩ := K.2.1.2.1
  refine Cal.ofJ (by decide +kernel) rfl (Nat.le_of_ble_eq_true rfl) fun hz0 => ?_
  refine r_ls [some (.ref x), some (.int (zI z)), some (.int w1), none] rfl ?_
  refine r_aload_n (pc := 0) (i := 0) (tX10_setAbsorbing.at 0 rfl) rfl rfl ?_
  refine r_iload_n (pc := 1) (i := 1) (tX10_setAbsorbing.at 1 rfl) rfl rfl ?_
  refine r_callVX (M' := mX10_requireVertex) (pc := 2) (tX10_setAbsorbing.at 2 rfl) ml_X10_150 rfl rfl mw_X10_requireVertex ⟨by decide, by decide⟩ (hx) rfl rfl (c_reqV1 hx hg hz hk (by have := okg.1; omega)) rfl rfl (Nat.le_of_ble_eq_true rfl) (Nat.le_of_ble_eq_true rfl) (Nat.le_of_ble_eq_true rfl) (Nat.le_of_ble_eq_true rfl) (Nat.le_of_ble_eq_true rfl) (fun rv h2 top2 z => z.elim) (fun E h2 top2 z => ?_)
  exact z
theorem x_join_0 {w1 : Int32} (K : okX v h x Z) (okg : okG Z.2.1) {z : Int} (hz : inI z) (hk : z < 0 ∨ (Z.2.1.n : Int) ≤ z) : Cal v mX10_join 7 1 6 [.ref x, .int (zI z), .int w1] h top fX (xX iobE h top) := by
  have hx := K.1.1
  have hg := K.1.2.1
  obtain ⟨L0, gn0, fn0, hp0, -⟩ := K.2.1.2.1
  refine Cal.ofJ (by decide +kernel) rfl (Nat.le_of_ble_eq_true rfl) fun hz0 => ?_
  refine r_ls [some (.ref x), some (.int (zI z)), some (.int w1)] rfl ?_
  refine r_aload_n (pc := 0) (i := 0) (tX10_join.at 0 rfl) rfl rfl ?_
  refine r_iload_n (pc := 1) (i := 1) (tX10_join.at 1 rfl) rfl rfl ?_
  refine r_callVX (M' := mX10_requireVertex) (pc := 2) (tX10_join.at 2 rfl) ml_X10_150 rfl rfl mw_X10_requireVertex ⟨by decide, by decide⟩ (hx) rfl rfl (c_reqV1 hx hg hz hk (by have := okg.1; omega)) rfl rfl (Nat.le_of_ble_eq_true rfl) (Nat.le_of_ble_eq_true rfl) (Nat.le_of_ble_eq_true rfl) (Nat.le_of_ble_eq_true rfl) (Nat.le_of_ble_eq_true rfl) (fun rv h2 top2 z => z.elim) (fun E h2 top2 z => ?_)
  exact z
theorem x_join_1 (K : okX v h x Z) (okg : okG Z.2.1) {i : Nat} (hi : i < Z.2.1.n) {z : Int} (hz : inI z) (hk : z < 0 ∨ (Z.2.1.n : Int) ≤ z) : Cal v mX10_join 7 1 6 [.ref x, .int (nI i), .int (zI z)] h top fX (xX iobE h top) := by
  have hx := K.1.1
  have hg := K.1.2.1
  obtain ⟨L0, gn0, fn0, hp0, -⟩ := K.2.1.2.1
  refine Cal.ofJ (by decide +kernel) rfl (Nat.le_of_ble_eq_true rfl) fun hz0 => ?_
  refine r_ls [some (.ref x), some (.int (nI i)), some (.int (zI z))] rfl ?_
  refine r_aload_n (pc := 0) (i := 0) (tX10_join.at 0 rfl) rfl rfl ?_
  refine r_iload_n (pc := 1) (i := 1) (tX10_join.at 1 rfl) rfl rfl ?_
  refine r_callV (M' := mX10_requireVertex) (pc := 2) (tX10_join.at 2 rfl) ml_X10_150 rfl mw_X10_requireVertex ⟨by decide, by decide⟩ (hx) rfl rfl (c_reqV0 hx hg hi (by have := okg.1; omega)) rfl rfl (Nat.le_of_ble_eq_true rfl) (Nat.le_of_ble_eq_true rfl) (Nat.le_of_ble_eq_true rfl) ?_
  rintro _ _ _ ⟨rfl, rfl, rfl⟩
  refine r_aload_n (pc := 5) (i := 0) (tX10_join.at 3 rfl) rfl rfl ?_
  refine r_iload_n (pc := 6) (i := 2) (tX10_join.at 4 rfl) rfl rfl ?_
  refine r_callVX (M' := mX10_requireVertex) (pc := 7) (tX10_join.at 5 rfl) ml_X10_150 rfl rfl mw_X10_requireVertex ⟨by decide, by decide⟩ (hx) rfl rfl (c_reqV1 hx hg hz hk (by have := okg.1; omega)) rfl rfl (Nat.le_of_ble_eq_true rfl) (Nat.le_of_ble_eq_true rfl) (Nat.le_of_ble_eq_true rfl) (Nat.le_of_ble_eq_true rfl) (Nat.le_of_ble_eq_true rfl) (fun rv h2 top2 z => z.elim) (fun E h2 top2 z => ?_)
  exact z
theorem x_separate_0 (K : okX v h x Z) (okg : okG Z.2.1) {z : Int} (hz : inI z) (hk : z < 0 ∨ (Z.2.1.n : Int) ≤ z) : Cal v mX10_separate 7 1 6 [.ref x, .int (zI z)] h top fX (xX iobE h top) := by
  have hx := K.1.1
  have hg := K.1.2.1
  obtain ⟨L0, gn0, fn0, hp0, -⟩ := K.2.1.2.1
  refine Cal.ofJ (by decide +kernel) rfl (Nat.le_of_ble_eq_true rfl) fun hz0 => ?_
  refine r_ls [some (.ref x), some (.int (zI z))] rfl ?_
  refine r_aload_n (pc := 0) (i := 0) (tX10_separate.at 0 rfl) rfl rfl ?_
  refine r_iload_n (pc := 1) (i := 1) (tX10_separate.at 1 rfl) rfl rfl ?_
  refine r_callVX (M' := mX10_requireVertex) (pc := 2) (tX10_separate.at 2 rfl) ml_X10_150 rfl rfl mw_X10_requireVertex ⟨by decide, by decide⟩ (hx) rfl rfl (c_reqV1 hx hg hz hk (by have := okg.1; omega)) rfl rfl (Nat.le_of_ble_eq_true rfl) (Nat.le_of_ble_eq_true rfl) (Nat.le_of_ble_eq_true rfl) (Nat.le_of_ble_eq_true rfl) (Nat.le_of_ble_eq_true rfl) (fun rv h2 top2 z => z.elim) (fun E h2 top2 z => ?_)
  exact z
theorem x_load_0 {z : Int} (K : okX v h x Z) (hd6 : Z.1.2.2 ≤ 600) (hz : inI z) (hk : z < 0 ∨ (Z.1.2.2 : Int) < z) : Cal v mX10_load 7 1 6 [.ref x, .int (zI z)] h top fX (xX iaE h top) := by
  have hx := K.1.1
  obtain ⟨R, hR, -, hRT⟩ := K.1.2.2.2
  have hz1 := hz.1
  have hz2 := hz.2
  have e : R.T.1.2 = Z.1.2.2 := by rw [hRT]
  refine Cal.ofJ (by decide +kernel) rfl (Nat.le_of_ble_eq_true rfl) fun hz0 => ?_
  refine r_ls [some (.ref x), some (.int (zI z)), none] rfl ?_
  refine r_aload_n (pc := 0) (i := 0) (tX10_load.at 0 rfl) rfl rfl ?_
  refine r_get (pc := 1) (tX10_load.at 1 rfl) gf_X10_30 (hx) rfl ?_
  refine r_get (pc := 4) (tX10_load.at 2 rfl) gf_X10_83 (hR.1) rfl ?_
  refine r_astore_n (pc := 7) (i := 2) (tX10_load.at 3 rfl) rfl (by decide) ?_
  refine r_iload_n (pc := 8) (i := 1) (tX10_load.at 4 rfl) rfl rfl ?_
  refine r_if_ltZ (pc := 9) 20 (tX10_load.at 5 rfl) (by decide) hz (fun c => ?_) (fun c => ?_)
  · refine r_throw 0 (pc := 20) rfl xw_X10_96 rfl (tX10_load.at 10 rfl) (tX10_load.at 11 rfl) (tX10_load.at 12 rfl) (tX10_load.at 13 rfl) (tX10_load.at 14 rfl) (Nat.le_of_ble_eq_true rfl) (Nat.le_of_ble_eq_true rfl) (Nat.le_of_ble_eq_true rfl) (Nat.le_of_ble_eq_true rfl) (Nat.le_of_ble_eq_true rfl) (Nat.le_of_ble_eq_true rfl) (fun top2 ht2 => ?_)
    exact ⟨rfl, rfl, ht2⟩
  · refine r_iload_n (pc := 12) (i := 1) (tX10_load.at 6 rfl) rfl rfl ?_
    refine r_aload_n (pc := 13) (i := 2) (tX10_load.at 7 rfl) rfl rfl ?_
    refine r_get (pc := 14) (tX10_load.at 8 rfl) gf_X10_87 (hR.2.1.1) rfl ?_
    rw [e, ← zI_nat Z.1.2.2]
    refine r_icmp_leZ (pc := 17) 30 (tX10_load.at 9 rfl) (by decide) ⟨by omega, by omega⟩ ⟨by omega, by omega⟩ (fun c => by omega) (fun _ => ?_)
    refine r_throw 0 (pc := 20) rfl xw_X10_96 rfl (tX10_load.at 10 rfl) (tX10_load.at 11 rfl) (tX10_load.at 12 rfl) (tX10_load.at 13 rfl) (tX10_load.at 14 rfl) (Nat.le_of_ble_eq_true rfl) (Nat.le_of_ble_eq_true rfl) (Nat.le_of_ble_eq_true rfl) (Nat.le_of_ble_eq_true rfl) (Nat.le_of_ble_eq_true rfl) (Nat.le_of_ble_eq_true rfl) (fun top2 ht2 => ?_)
    exact ⟨rfl, rfl, ht2⟩
end

