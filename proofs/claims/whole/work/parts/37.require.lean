/-! ===== what the component refuses ===== -/
def xX (cls : String) (h : Hp) (top : Nat) : String → Hp → Nat → Prop := fun E h' top' => E = cls ∧ h' = h ∧ top ≤ top'
def fX : Option Value → Hp → Nat → Prop := fun _ _ _ => False
def iobE : String := "java/lang/IndexOutOfBoundsException"
def iaE : String := "java/lang/IllegalArgumentException"
def isE' : String := "java/lang/IllegalStateException"
theorem c_reqV0 {v : Ev} {h : Hp} {top x k : Nat} {eo : Int} {G : GT} (hx : h x = some (xE x eo)) (hg : isG v h (x + 1) G) (hk : k < G.n) (hn : G.n ≤ 100) : Cal v mX10_requireVertex 1 0 0 [.ref x, .int (nI k)] h top (pV h top) noX := by
  refine Cal.ofJ (by decide +kernel) rfl (Nat.le_of_ble_eq_true rfl) fun hz0 => ?_
  refine r_ls [some (.ref x), some (.int (nI k))] rfl ?_
  refine r_iload_n (pc := 0) (i := 1) (tX10_requireVertex.at 0 rfl) rfl rfl ?_
  refine r_if_ltN (pc := 1) 15 (tX10_requireVertex.at 1 rfl) (by decide) (by omega) ?_
  refine r_iload_n (pc := 4) (i := 1) (tX10_requireVertex.at 2 rfl) rfl rfl ?_
  refine r_aload_n (pc := 5) (i := 0) (tX10_requireVertex.at 3 rfl) rfl rfl ?_
  refine r_get (pc := 6) (tX10_requireVertex.at 4 rfl) gf_X10_16 (hx) rfl ?_
  refine r_get (pc := 9) (tX10_requireVertex.at 5 rfl) gf_X10_127 (hg.1) rfl ?_
  refine r_icmp_ltN (pc := 12) 26 (tX10_requireVertex.at 6 rfl) (by decide) (by omega) (by omega) (fun _ => ?_) (fun c => by omega)
  refine r_vret (pc := 26) (tX10_requireVertex.at 12 rfl) rfl (Nat.le_of_ble_eq_true rfl) (Nat.le_of_ble_eq_true rfl) ?_
  exact ⟨rfl, rfl, rfl⟩
theorem c_reqV1 {v : Ev} {h : Hp} {top x : Nat} {eo z : Int} {G : GT} (hx : h x = some (xE x eo)) (hg : isG v h (x + 1) G) (hz : inI z) (hk : z < 0 ∨ (G.n : Int) ≤ z) (hn : G.n ≤ 100) : Cal v mX10_requireVertex 6 1 6 [.ref x, .int (zI z)] h top fX (xX iobE h top) := by
  obtain ⟨z1, z2⟩ := hz
  refine Cal.ofJ (by decide +kernel) rfl (Nat.le_of_ble_eq_true rfl) fun hz0 => ?_
  refine r_ls [some (.ref x), some (.int (zI z))] rfl ?_
  refine r_iload_n (pc := 0) (i := 1) (tX10_requireVertex.at 0 rfl) rfl rfl ?_
  refine r_if_ltZ (pc := 1) 15 (tX10_requireVertex.at 1 rfl) (by decide) ⟨z1, z2⟩ (fun c => ?_) (fun c => ?_)
  · refine r_throwW 11 (pc := 15) rfl xw_X10_309 rfl (tX10_requireVertex.at 7 rfl) (tX10_requireVertex.at 8 rfl) (tX10_requireVertex.at 9 rfl) (tX10_requireVertex.at 10 rfl) (tX10_requireVertex.at 11 rfl) (Nat.le_of_ble_eq_true rfl) (Nat.le_of_ble_eq_true rfl) (Nat.le_of_ble_eq_true rfl) (Nat.le_of_ble_eq_true rfl) (Nat.le_of_ble_eq_true rfl) (Nat.le_of_ble_eq_true rfl) (fun top2 ht2 => ?_)
    exact ⟨rfl, rfl, ht2⟩
  · refine r_iload_n (pc := 4) (i := 1) (tX10_requireVertex.at 2 rfl) rfl rfl ?_
    refine r_aload_n (pc := 5) (i := 0) (tX10_requireVertex.at 3 rfl) rfl rfl ?_
    refine r_get (pc := 6) (tX10_requireVertex.at 4 rfl) gf_X10_16 (hx) rfl ?_
    refine r_get (pc := 9) (tX10_requireVertex.at 5 rfl) gf_X10_127 (hg.1) rfl ?_
    rw [← zI_nat G.n]
    refine r_icmp_ltZ (pc := 12) 26 (tX10_requireVertex.at 6 rfl) (by decide) ⟨by omega, by omega⟩ ⟨by omega, by omega⟩ (fun c => by omega) (fun _ => ?_)
    refine r_throwW 11 (pc := 15) rfl xw_X10_309 rfl (tX10_requireVertex.at 7 rfl) (tX10_requireVertex.at 8 rfl) (tX10_requireVertex.at 9 rfl) (tX10_requireVertex.at 10 rfl) (tX10_requireVertex.at 11 rfl) (Nat.le_of_ble_eq_true rfl) (Nat.le_of_ble_eq_true rfl) (Nat.le_of_ble_eq_true rfl) (Nat.le_of_ble_eq_true rfl) (Nat.le_of_ble_eq_true rfl) (Nat.le_of_ble_eq_true rfl) (fun top2 ht2 => ?_)
    exact ⟨rfl, rfl, ht2⟩
theorem c_reqE0 {v : Ev} {h : Hp} {top x k : Nat} {eo : Int} {G : GT} (hx : h x = some (xE x eo)) (hg : isG v h (x + 1) G) (hk : k < G.e) (hn : G.e ≤ 100) : Cal v mX10_requireEdge 1 0 0 [.ref x, .int (nI k)] h top (pV h top) noX := by
  refine Cal.ofJ (by decide +kernel) rfl (Nat.le_of_ble_eq_true rfl) fun hz0 => ?_
  refine r_ls [some (.ref x), some (.int (nI k))] rfl ?_
  refine r_iload_n (pc := 0) (i := 1) (tX10_requireEdge.at 0 rfl) rfl rfl ?_
  refine r_if_ltN (pc := 1) 15 (tX10_requireEdge.at 1 rfl) (by decide) (by omega) ?_
  refine r_iload_n (pc := 4) (i := 1) (tX10_requireEdge.at 2 rfl) rfl rfl ?_
  refine r_aload_n (pc := 5) (i := 0) (tX10_requireEdge.at 3 rfl) rfl rfl ?_
  refine r_get (pc := 6) (tX10_requireEdge.at 4 rfl) gf_X10_16 (hx) rfl ?_
  refine r_get (pc := 9) (tX10_requireEdge.at 5 rfl) gf_X10_124 (hg.1) rfl ?_
  refine r_icmp_ltN (pc := 12) 26 (tX10_requireEdge.at 6 rfl) (by decide) (by omega) (by omega) (fun _ => ?_) (fun c => by omega)
  refine r_vret (pc := 26) (tX10_requireEdge.at 12 rfl) rfl (Nat.le_of_ble_eq_true rfl) (Nat.le_of_ble_eq_true rfl) ?_
  exact ⟨rfl, rfl, rfl⟩
theorem c_reqE1 {v : Ev} {h : Hp} {top x : Nat} {eo z : Int} {G : GT} (hx : h x = some (xE x eo)) (hg : isG v h (x + 1) G) (hz : inI z) (hk : z < 0 ∨ (G.e : Int) ≤ z) (hn : G.e ≤ 100) : Cal v mX10_requireEdge 6 1 6 [.ref x, .int (zI z)] h top fX (xX iobE h top) := by
  obtain ⟨z1, z2⟩ := hz
  refine Cal.ofJ (by decide +kernel) rfl (Nat.le_of_ble_eq_true rfl) fun hz0 => ?_
  refine r_ls [some (.ref x), some (.int (zI z))] rfl ?_
  refine r_iload_n (pc := 0) (i := 1) (tX10_requireEdge.at 0 rfl) rfl rfl ?_
  refine r_if_ltZ (pc := 1) 15 (tX10_requireEdge.at 1 rfl) (by decide) ⟨z1, z2⟩ (fun c => ?_) (fun c => ?_)
  · refine r_throwW 9 (pc := 15) rfl xw_X10_309 rfl (tX10_requireEdge.at 7 rfl) (tX10_requireEdge.at 8 rfl) (tX10_requireEdge.at 9 rfl) (tX10_requireEdge.at 10 rfl) (tX10_requireEdge.at 11 rfl) (Nat.le_of_ble_eq_true rfl) (Nat.le_of_ble_eq_true rfl) (Nat.le_of_ble_eq_true rfl) (Nat.le_of_ble_eq_true rfl) (Nat.le_of_ble_eq_true rfl) (Nat.le_of_ble_eq_true rfl) (fun top2 ht2 => ?_)
    exact ⟨rfl, rfl, ht2⟩
  · refine r_iload_n (pc := 4) (i := 1) (tX10_requireEdge.at 2 rfl) rfl rfl ?_
    refine r_aload_n (pc := 5) (i := 0) (tX10_requireEdge.at 3 rfl) rfl rfl ?_
    refine r_get (pc := 6) (tX10_requireEdge.at 4 rfl) gf_X10_16 (hx) rfl ?_
    refine r_get (pc := 9) (tX10_requireEdge.at 5 rfl) gf_X10_124 (hg.1) rfl ?_
    rw [← zI_nat G.e]
    refine r_icmp_ltZ (pc := 12) 26 (tX10_requireEdge.at 6 rfl) (by decide) ⟨by omega, by omega⟩ ⟨by omega, by omega⟩ (fun c => by omega) (fun _ => ?_)
    refine r_throwW 9 (pc := 15) rfl xw_X10_309 rfl (tX10_requireEdge.at 7 rfl) (tX10_requireEdge.at 8 rfl) (tX10_requireEdge.at 9 rfl) (tX10_requireEdge.at 10 rfl) (tX10_requireEdge.at 11 rfl) (Nat.le_of_ble_eq_true rfl) (Nat.le_of_ble_eq_true rfl) (Nat.le_of_ble_eq_true rfl) (Nat.le_of_ble_eq_true rfl) (Nat.le_of_ble_eq_true rfl) (Nat.le_of_ble_eq_true rfl) (fun top2 ht2 => ?_)
    exact ⟨rfl, rfl, ht2⟩
theorem c_reqB0 {v : Ev} {h : Hp} {top x k : Nat} {eo : Int} {G : GT} (hx : h x = some (xE x eo)) (hg : isG v h (x + 1) G) (hk : k < G.b) (hn : G.b ≤ 100) : Cal v mX10_requireBlock 1 0 0 [.ref x, .int (nI k)] h top (pV h top) noX := by
  refine Cal.ofJ (by decide +kernel) rfl (Nat.le_of_ble_eq_true rfl) fun hz0 => ?_
  refine r_ls [some (.ref x), some (.int (nI k))] rfl ?_
  refine r_iload_n (pc := 0) (i := 1) (tX10_requireBlock.at 0 rfl) rfl rfl ?_
  refine r_if_ltN (pc := 1) 15 (tX10_requireBlock.at 1 rfl) (by decide) (by omega) ?_
  refine r_iload_n (pc := 4) (i := 1) (tX10_requireBlock.at 2 rfl) rfl rfl ?_
  refine r_aload_n (pc := 5) (i := 0) (tX10_requireBlock.at 3 rfl) rfl rfl ?_
  refine r_get (pc := 6) (tX10_requireBlock.at 4 rfl) gf_X10_16 (hx) rfl ?_
  refine r_get (pc := 9) (tX10_requireBlock.at 5 rfl) gf_X10_222 (hg.1) rfl ?_
  refine r_icmp_ltN (pc := 12) 26 (tX10_requireBlock.at 6 rfl) (by decide) (by omega) (by omega) (fun _ => ?_) (fun c => by omega)
  refine r_vret (pc := 26) (tX10_requireBlock.at 12 rfl) rfl (Nat.le_of_ble_eq_true rfl) (Nat.le_of_ble_eq_true rfl) ?_
  exact ⟨rfl, rfl, rfl⟩
theorem c_reqB1 {v : Ev} {h : Hp} {top x : Nat} {eo z : Int} {G : GT} (hx : h x = some (xE x eo)) (hg : isG v h (x + 1) G) (hz : inI z) (hk : z < 0 ∨ (G.b : Int) ≤ z) (hn : G.b ≤ 100) : Cal v mX10_requireBlock 6 1 6 [.ref x, .int (zI z)] h top fX (xX iobE h top) := by
  obtain ⟨z1, z2⟩ := hz
  refine Cal.ofJ (by decide +kernel) rfl (Nat.le_of_ble_eq_true rfl) fun hz0 => ?_
  refine r_ls [some (.ref x), some (.int (zI z))] rfl ?_
  refine r_iload_n (pc := 0) (i := 1) (tX10_requireBlock.at 0 rfl) rfl rfl ?_
  refine r_if_ltZ (pc := 1) 15 (tX10_requireBlock.at 1 rfl) (by decide) ⟨z1, z2⟩ (fun c => ?_) (fun c => ?_)
  · refine r_throwW 15 (pc := 15) rfl xw_X10_309 rfl (tX10_requireBlock.at 7 rfl) (tX10_requireBlock.at 8 rfl) (tX10_requireBlock.at 9 rfl) (tX10_requireBlock.at 10 rfl) (tX10_requireBlock.at 11 rfl) (Nat.le_of_ble_eq_true rfl) (Nat.le_of_ble_eq_true rfl) (Nat.le_of_ble_eq_true rfl) (Nat.le_of_ble_eq_true rfl) (Nat.le_of_ble_eq_true rfl) (Nat.le_of_ble_eq_true rfl) (fun top2 ht2 => ?_)
    exact ⟨rfl, rfl, ht2⟩
  · refine r_iload_n (pc := 4) (i := 1) (tX10_requireBlock.at 2 rfl) rfl rfl ?_
    refine r_aload_n (pc := 5) (i := 0) (tX10_requireBlock.at 3 rfl) rfl rfl ?_
    refine r_get (pc := 6) (tX10_requireBlock.at 4 rfl) gf_X10_16 (hx) rfl ?_
    refine r_get (pc := 9) (tX10_requireBlock.at 5 rfl) gf_X10_222 (hg.1) rfl ?_
    rw [← zI_nat G.b]
    refine r_icmp_ltZ (pc := 12) 26 (tX10_requireBlock.at 6 rfl) (by decide) ⟨by omega, by omega⟩ ⟨by omega, by omega⟩ (fun c => by omega) (fun _ => ?_)
    refine r_throwW 15 (pc := 15) rfl xw_X10_309 rfl (tX10_requireBlock.at 7 rfl) (tX10_requireBlock.at 8 rfl) (tX10_requireBlock.at 9 rfl) (tX10_requireBlock.at 10 rfl) (tX10_requireBlock.at 11 rfl) (Nat.le_of_ble_eq_true rfl) (Nat.le_of_ble_eq_true rfl) (Nat.le_of_ble_eq_true rfl) (Nat.le_of_ble_eq_true rfl) (Nat.le_of_ble_eq_true rfl) (Nat.le_of_ble_eq_true rfl) (fun top2 ht2 => ?_)
    exact ⟨rfl, rfl, ht2⟩
theorem c_reqW0 {v : Ev} {h : Hp} {top x k : Nat} (hk : 1 ≤ k ∧ k ≤ 9) : Cal v mX10_requireWeight 1 0 0 [.ref x, .int (nI k)] h top (pV h top) noX := by
  refine Cal.ofJ (by decide +kernel) rfl (Nat.le_of_ble_eq_true rfl) fun hz0 => ?_
  refine r_ls [some (.ref x), some (.int (nI k))] rfl ?_
  refine r_iload_n (pc := 0) (i := 1) (tX10_requireWeight.at 0 rfl) rfl rfl ?_
  refine r_iconst (pc := 1) (w := nI 1) (tX10_requireWeight.at 1 rfl) (by decide) ?_
  refine r_icmp_ltN (pc := 2) 11 (tX10_requireWeight.at 2 rfl) (by decide) (by omega) (by omega) (fun c => by omega) (fun _ => ?_)
  refine r_iload_n (pc := 5) (i := 1) (tX10_requireWeight.at 3 rfl) rfl rfl ?_
  refine r_bipush (pc := 6) (w := nI 9) (tX10_requireWeight.at 4 rfl) (by decide) ?_
  refine r_icmp_leN (pc := 8) 22 (tX10_requireWeight.at 5 rfl) (by decide) (by omega) (by omega) (fun _ => ?_) (fun c => by omega)
  refine r_vret (pc := 22) (tX10_requireWeight.at 11 rfl) rfl (Nat.le_of_ble_eq_true rfl) (Nat.le_of_ble_eq_true rfl) ?_
  exact ⟨rfl, rfl, rfl⟩
theorem c_reqW1 {v : Ev} {h : Hp} {top x : Nat} {z : Int} (hz : inI z) (hk : z < 1 ∨ 9 < z) : Cal v mX10_requireWeight 6 1 6 [.ref x, .int (zI z)] h top fX (xX iaE h top) := by
  obtain ⟨z1, z2⟩ := hz
  refine Cal.ofJ (by decide +kernel) rfl (Nat.le_of_ble_eq_true rfl) fun hz0 => ?_
  refine r_ls [some (.ref x), some (.int (zI z))] rfl ?_
  refine r_iload_n (pc := 0) (i := 1) (tX10_requireWeight.at 0 rfl) rfl rfl ?_
  refine r_iconst (pc := 1) (w := nI 1) (tX10_requireWeight.at 1 rfl) (by decide) ?_
  rw [show nI 1 = zI 1 from rfl]
  refine r_icmp_ltZ (pc := 2) 11 (tX10_requireWeight.at 2 rfl) (by decide) ⟨by omega, by omega⟩ ⟨by omega, by omega⟩ (fun c => ?_) (fun c => ?_)
  · refine r_throwW 22 (pc := 11) rfl xw_X10_96 rfl (tX10_requireWeight.at 6 rfl) (tX10_requireWeight.at 7 rfl) (tX10_requireWeight.at 8 rfl) (tX10_requireWeight.at 9 rfl) (tX10_requireWeight.at 10 rfl) (Nat.le_of_ble_eq_true rfl) (Nat.le_of_ble_eq_true rfl) (Nat.le_of_ble_eq_true rfl) (Nat.le_of_ble_eq_true rfl) (Nat.le_of_ble_eq_true rfl) (Nat.le_of_ble_eq_true rfl) (fun top2 ht2 => ?_)
    exact ⟨rfl, rfl, ht2⟩
  · refine r_iload_n (pc := 5) (i := 1) (tX10_requireWeight.at 3 rfl) rfl rfl ?_
    refine r_bipush (pc := 6) (w := nI 9) (tX10_requireWeight.at 4 rfl) (by decide) ?_
    rw [show nI 9 = zI 9 from rfl]
    refine r_icmp_leZ (pc := 8) 22 (tX10_requireWeight.at 5 rfl) (by decide) ⟨by omega, by omega⟩ ⟨by omega, by omega⟩ (fun c => by omega) (fun _ => ?_)
    refine r_throwW 22 (pc := 11) rfl xw_X10_96 rfl (tX10_requireWeight.at 6 rfl) (tX10_requireWeight.at 7 rfl) (tX10_requireWeight.at 8 rfl) (tX10_requireWeight.at 9 rfl) (tX10_requireWeight.at 10 rfl) (Nat.le_of_ble_eq_true rfl) (Nat.le_of_ble_eq_true rfl) (Nat.le_of_ble_eq_true rfl) (Nat.le_of_ble_eq_true rfl) (Nat.le_of_ble_eq_true rfl) (Nat.le_of_ble_eq_true rfl) (fun top2 ht2 => ?_)
    exact ⟨rfl, rfl, ht2⟩
theorem okG.w {G : GT} (h : okG G) : ∀ k, k < 36 → G.W k < 2147483648 := fun k hk => by have := h.2.2.2.2 k hk; omega
theorem c_reqWay0 {v : Ev} {h : Hp} {top x i j : Nat} {eo : Int} {G : GT} (hx : h x = some (xE x eo)) (hg : isG v h (x + 1) G) (ok : okG G) (hi : i < G.n) (hj : j < 6) (hw : (rch G.W G.n i).testBit j = true) : Cal v mX10_requireWay 5 0 0 [.ref x, .int (nI i), .int (nI j)] h top (pV h top) noX := by
  refine Cal.ofJ (by decide +kernel) rfl (Nat.le_of_ble_eq_true rfl) fun hz0 => ?_
  refine r_ls [some (.ref x), some (.int (nI i)), some (.int (nI j))] rfl ?_
  refine r_aload_n (pc := 0) (i := 0) (tX10_requireWay.at 0 rfl) rfl rfl ?_
  refine r_get (pc := 1) (tX10_requireWay.at 1 rfl) gf_X10_16 (hx) rfl ?_
  refine r_iload_n (pc := 4) (i := 1) (tX10_requireWay.at 2 rfl) rfl rfl ?_
  refine r_iload_n (pc := 5) (i := 2) (tX10_requireWay.at 3 rfl) rfl rfl ?_
  refine r_callV (M' := mX3_hasWay) (pc := 6) (tX10_requireWay.at 4 rfl) ml_X10_244 rfl mw_X3_hasWay ⟨by decide, by decide⟩ (hg.1) rfl rfl (c_hasWay hg ok.1 hi hj ok.w) rfl rfl (Nat.le_of_ble_eq_true rfl) (Nat.le_of_ble_eq_true rfl) (Nat.le_of_ble_eq_true rfl) ?_
  rintro _ _ _ ⟨rfl, rfl, rfl⟩
  rw [hw]
  refine r_if_neN (pc := 9) 23 (tX10_requireWay.at 5 rfl) (by decide) (by decide) (fun _ => ?_) (fun z => absurd z (by decide))
  refine r_vret (pc := 23) (tX10_requireWay.at 11 rfl) rfl (Nat.le_of_ble_eq_true rfl) (Nat.le_of_ble_eq_true rfl) ?_
  exact ⟨rfl, rfl, rfl⟩
theorem c_reqWay1 {v : Ev} {h : Hp} {top x i j : Nat} {eo : Int} {G : GT} (hx : h x = some (xE x eo)) (hg : isG v h (x + 1) G) (ok : okG G) (hi : i < G.n) (hj : j < 6) (hw : (rch G.W G.n i).testBit j = false) : Cal v mX10_requireWay 6 1 6 [.ref x, .int (nI i), .int (nI j)] h top fX (xX isE' h top) := by
  refine Cal.ofJ (by decide +kernel) rfl (Nat.le_of_ble_eq_true rfl) fun hz0 => ?_
  refine r_ls [some (.ref x), some (.int (nI i)), some (.int (nI j))] rfl ?_
  refine r_aload_n (pc := 0) (i := 0) (tX10_requireWay.at 0 rfl) rfl rfl ?_
  refine r_get (pc := 1) (tX10_requireWay.at 1 rfl) gf_X10_16 (hx) rfl ?_
  refine r_iload_n (pc := 4) (i := 1) (tX10_requireWay.at 2 rfl) rfl rfl ?_
  refine r_iload_n (pc := 5) (i := 2) (tX10_requireWay.at 3 rfl) rfl rfl ?_
  refine r_callV (M' := mX3_hasWay) (pc := 6) (tX10_requireWay.at 4 rfl) ml_X10_244 rfl mw_X3_hasWay ⟨by decide, by decide⟩ (hg.1) rfl rfl (c_hasWay hg ok.1 hi hj ok.w) rfl rfl (Nat.le_of_ble_eq_true rfl) (Nat.le_of_ble_eq_true rfl) (Nat.le_of_ble_eq_true rfl) ?_
  rintro _ _ _ ⟨rfl, rfl, rfl⟩
  rw [hw]
  refine r_if_neN (pc := 9) 23 (tX10_requireWay.at 5 rfl) (by decide) (by decide) (fun z => absurd rfl z) (fun _ => ?_)
  refine r_throwW 12 (pc := 12) rfl xw_X10_248 rfl (tX10_requireWay.at 6 rfl) (tX10_requireWay.at 7 rfl) (tX10_requireWay.at 8 rfl) (tX10_requireWay.at 9 rfl) (tX10_requireWay.at 10 rfl) (Nat.le_of_ble_eq_true rfl) (Nat.le_of_ble_eq_true rfl) (Nat.le_of_ble_eq_true rfl) (Nat.le_of_ble_eq_true rfl) (Nat.le_of_ble_eq_true rfl) (Nat.le_of_ble_eq_true rfl) (fun top2 ht2 => ?_)
  exact ⟨rfl, rfl, ht2⟩
theorem and_lt {a b : Nat} (h : a < 64) : a &&& b < 64 := Nat.lt_of_le_of_lt Nat.and_le_left h
theorem c_reqAb0 {v : Ev} {h : Hp} {top x i : Nat} {eo : Int} {G : GT} (hx : h x = some (xE x eo)) (hg : isG v h (x + 1) G) (ok : okG G) (hi : i < G.n) (hw : rch G.W G.n i &&& G.a ≠ 0) : Cal v mX10_requireAbsorbingWay 4 0 0 [.ref x, .int (nI i)] h top (pV h top) noX := by
  have h1 : rch G.W G.n i < 64 := Nat.lt_of_lt_of_le (rch_lt hi) (p64 ok.1)
  refine Cal.ofJ (by decide +kernel) rfl (Nat.le_of_ble_eq_true rfl) fun hz0 => ?_
  refine r_ls [some (.ref x), some (.int (nI i))] rfl ?_
  refine r_aload_n (pc := 0) (i := 0) (tX10_requireAbsorbingWay.at 0 rfl) rfl rfl ?_
  refine r_get (pc := 1) (tX10_requireAbsorbingWay.at 1 rfl) gf_X10_16 (hx) rfl ?_
  refine r_iload_n (pc := 4) (i := 1) (tX10_requireAbsorbingWay.at 2 rfl) rfl rfl ?_
  refine r_callV (M' := mX3_component) (pc := 5) (tX10_requireAbsorbingWay.at 3 rfl) ml_X10_157 rfl mw_X3_component ⟨by decide, by decide⟩ (hg.1) rfl rfl (c_comp hg ok.1 hi ok.w) rfl rfl (Nat.le_of_ble_eq_true rfl) (Nat.le_of_ble_eq_true rfl) (Nat.le_of_ble_eq_true rfl) ?_
  rintro _ _ _ ⟨rfl, rfl, rfl⟩
  refine r_aload_n (pc := 8) (i := 0) (tX10_requireAbsorbingWay.at 4 rfl) rfl rfl ?_
  refine r_get (pc := 9) (tX10_requireAbsorbingWay.at 5 rfl) gf_X10_16 (hx) rfl ?_
  refine r_get (pc := 12) (tX10_requireAbsorbingWay.at 6 rfl) gf_X10_197 (hg.1) rfl ?_
  refine r_iand (pc := 15) (tX10_requireAbsorbingWay.at 7 rfl) ?_
  rw [bs_and _ h1 _ ok.2.2.1]
  refine r_if_neN (pc := 16) 30 (tX10_requireAbsorbingWay.at 8 rfl) (by decide) (by have := and_lt (b := G.a) h1; omega) (fun _ => ?_) (fun z => absurd z hw)
  refine r_vret (pc := 30) (tX10_requireAbsorbingWay.at 14 rfl) rfl (Nat.le_of_ble_eq_true rfl) (Nat.le_of_ble_eq_true rfl) ?_
  exact ⟨rfl, rfl, rfl⟩
theorem c_reqAb1 {v : Ev} {h : Hp} {top x i : Nat} {eo : Int} {G : GT} (hx : h x = some (xE x eo)) (hg : isG v h (x + 1) G) (ok : okG G) (hi : i < G.n) (hw : rch G.W G.n i &&& G.a = 0) : Cal v mX10_requireAbsorbingWay 6 1 6 [.ref x, .int (nI i)] h top fX (xX isE' h top) := by
  have h1 : rch G.W G.n i < 64 := Nat.lt_of_lt_of_le (rch_lt hi) (p64 ok.1)
  refine Cal.ofJ (by decide +kernel) rfl (Nat.le_of_ble_eq_true rfl) fun hz0 => ?_
  refine r_ls [some (.ref x), some (.int (nI i))] rfl ?_
  refine r_aload_n (pc := 0) (i := 0) (tX10_requireAbsorbingWay.at 0 rfl) rfl rfl ?_
  refine r_get (pc := 1) (tX10_requireAbsorbingWay.at 1 rfl) gf_X10_16 (hx) rfl ?_
  refine r_iload_n (pc := 4) (i := 1) (tX10_requireAbsorbingWay.at 2 rfl) rfl rfl ?_
  refine r_callV (M' := mX3_component) (pc := 5) (tX10_requireAbsorbingWay.at 3 rfl) ml_X10_157 rfl mw_X3_component ⟨by decide, by decide⟩ (hg.1) rfl rfl (c_comp hg ok.1 hi ok.w) rfl rfl (Nat.le_of_ble_eq_true rfl) (Nat.le_of_ble_eq_true rfl) (Nat.le_of_ble_eq_true rfl) ?_
  rintro _ _ _ ⟨rfl, rfl, rfl⟩
  refine r_aload_n (pc := 8) (i := 0) (tX10_requireAbsorbingWay.at 4 rfl) rfl rfl ?_
  refine r_get (pc := 9) (tX10_requireAbsorbingWay.at 5 rfl) gf_X10_16 (hx) rfl ?_
  refine r_get (pc := 12) (tX10_requireAbsorbingWay.at 6 rfl) gf_X10_197 (hg.1) rfl ?_
  refine r_iand (pc := 15) (tX10_requireAbsorbingWay.at 7 rfl) ?_
  rw [bs_and _ h1 _ ok.2.2.1, hw]
  refine r_if_neN (pc := 16) 30 (tX10_requireAbsorbingWay.at 8 rfl) (by decide) (by decide) (fun z => absurd rfl z) (fun _ => ?_)
  refine r_throwW 14 (pc := 19) rfl xw_X10_248 rfl (tX10_requireAbsorbingWay.at 9 rfl) (tX10_requireAbsorbingWay.at 10 rfl) (tX10_requireAbsorbingWay.at 11 rfl) (tX10_requireAbsorbingWay.at 12 rfl) (tX10_requireAbsorbingWay.at 13 rfl) (Nat.le_of_ble_eq_true rfl) (Nat.le_of_ble_eq_true rfl) (Nat.le_of_ble_eq_true rfl) (Nat.le_of_ble_eq_true rfl) (Nat.le_of_ble_eq_true rfl) (Nat.le_of_ble_eq_true rfl) (fun top2 ht2 => ?_)
  exact ⟨rfl, rfl, ht2⟩
theorem okG.b7 {G : GT} (h : okG G) : ∀ k, k < 6 → G.B k < 2147483648 := fun k hk => by have := h.2.2.2.1 k hk; omega
theorem c_reqLu0 {v : Ev} {h : Hp} {top x : Nat} {eo : Int} {G : GT} (hx : h x = some (xE x eo)) (hp0 : h (x + 74) = some (ptE (x + 74))) (hg : isG v h (x + 1) G) (ok : okG G) (hb : G.b ≤ 6) (hw : ptB G = false) : Cal v mX10_requireLumpable 5 0 0 [.ref x] h top (pV h top) noX := by
  have hv : ptN G.W G.B G.n G.b = -1 := by
    unfold ptN
    rw [if_neg (by unfold ptB at hw; simpa using hw)]
  refine Cal.ofJ (by decide +kernel) rfl (Nat.le_of_ble_eq_true rfl) fun hz0 => ?_
  refine r_ls [some (.ref x)] rfl ?_
  refine r_aload_n (pc := 0) (i := 0) (tX10_requireLumpable.at 0 rfl) rfl rfl ?_
  refine r_get (pc := 1) (tX10_requireLumpable.at 1 rfl) gf_X10_44 (hx) rfl ?_
  refine r_aload_n (pc := 4) (i := 0) (tX10_requireLumpable.at 2 rfl) rfl rfl ?_
  refine r_get (pc := 5) (tX10_requireLumpable.at 3 rfl) gf_X10_16 (hx) rfl ?_
  refine r_callV (M' := mX5_firstParted) (pc := 8) (tX10_requireLumpable.at 4 rfl) ml_X10_225 rfl mw_X5_firstParted ⟨by decide, by decide⟩ (hp0) rfl rfl (c_firstP hg ok.1 ok.b7 hb ok.2.2.2.2) rfl rfl (Nat.le_of_ble_eq_true rfl) (Nat.le_of_ble_eq_true rfl) (Nat.le_of_ble_eq_true rfl) ?_
  rintro _ _ _ ⟨rfl, rfl, rfl⟩
  rw [hv]
  refine r_if_ltZ (pc := 11) 25 (tX10_requireLumpable.at 5 rfl) (by decide) ⟨by omega, by omega⟩ (fun _ => ?_) (fun c => absurd c (by decide))
  refine r_vret (pc := 25) (tX10_requireLumpable.at 11 rfl) rfl (Nat.le_of_ble_eq_true rfl) (Nat.le_of_ble_eq_true rfl) ?_
  exact ⟨rfl, rfl, rfl⟩
theorem pt_b {G : GT} (hn : G.n ≤ 6) (hb : G.b ≤ 6) : inI (ptN G.W G.B G.n G.b) ∧ -1 ≤ ptN G.W G.B G.n G.b := by
  unfold ptN
  split
  · next c2 =>
    have c3 : pqY G.W G.B G.n G.b (pqX G.W G.B G.n G.b) ≤ G.n := (fstN_spec _ _).1
    have c4 : fdN G.W G.B G.n G.b (pqX G.W G.B G.n G.b) (pqY G.W G.B G.n G.b (pqX G.W G.B G.n G.b)) ≤ G.b := (fstN_spec _ _).1
    unfold inI
    omega
  · exact ⟨⟨by omega, by omega⟩, by omega⟩
theorem c_reqLu1 {v : Ev} {h : Hp} {top x : Nat} {eo : Int} {G : GT} (hx : h x = some (xE x eo)) (hp0 : h (x + 74) = some (ptE (x + 74))) (hg : isG v h (x + 1) G) (ok : okG G) (hb : G.b ≤ 6) (hw : ptB G = true) : Cal v mX10_requireLumpable 6 1 6 [.ref x] h top fX (xX isE' h top) := by
  have hr := pt_b ok.1 hb
  have hpt := ptN_neg (G := G)
  refine Cal.ofJ (by decide +kernel) rfl (Nat.le_of_ble_eq_true rfl) fun hz0 => ?_
  refine r_ls [some (.ref x)] rfl ?_
  refine r_aload_n (pc := 0) (i := 0) (tX10_requireLumpable.at 0 rfl) rfl rfl ?_
  refine r_get (pc := 1) (tX10_requireLumpable.at 1 rfl) gf_X10_44 (hx) rfl ?_
  refine r_aload_n (pc := 4) (i := 0) (tX10_requireLumpable.at 2 rfl) rfl rfl ?_
  refine r_get (pc := 5) (tX10_requireLumpable.at 3 rfl) gf_X10_16 (hx) rfl ?_
  refine r_callV (M' := mX5_firstParted) (pc := 8) (tX10_requireLumpable.at 4 rfl) ml_X10_225 rfl mw_X5_firstParted ⟨by decide, by decide⟩ (hp0) rfl rfl (c_firstP hg ok.1 ok.b7 hb ok.2.2.2.2) rfl rfl (Nat.le_of_ble_eq_true rfl) (Nat.le_of_ble_eq_true rfl) (Nat.le_of_ble_eq_true rfl) ?_
  rintro _ _ _ ⟨rfl, rfl, rfl⟩
  refine r_if_ltZ (pc := 11) 25 (tX10_requireLumpable.at 5 rfl) (by decide) hr.1 (fun c => absurd (hpt.mp c) (by rw [hw]; decide)) (fun _ => ?_)
  refine r_throwW 16 (pc := 14) rfl xw_X10_248 rfl (tX10_requireLumpable.at 6 rfl) (tX10_requireLumpable.at 7 rfl) (tX10_requireLumpable.at 8 rfl) (tX10_requireLumpable.at 9 rfl) (tX10_requireLumpable.at 10 rfl) (Nat.le_of_ble_eq_true rfl) (Nat.le_of_ble_eq_true rfl) (Nat.le_of_ble_eq_true rfl) (Nat.le_of_ble_eq_true rfl) (Nat.le_of_ble_eq_true rfl) (Nat.le_of_ble_eq_true rfl) (fun top2 ht2 => ?_)
  exact ⟨rfl, rfl, ht2⟩

