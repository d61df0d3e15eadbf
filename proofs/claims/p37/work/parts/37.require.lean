/-! ===== what the component refuses ===== -/
def xX (cls : String) (h : Hp) (top : Nat) : String → Hp → Nat → Prop := fun E h' top' => E = cls ∧ h' = h ∧ top ≤ top'
def fX : Option Value → Hp → Nat → Prop := fun _ _ _ => False
def iobE : String := "java/lang/IndexOutOfBoundsException"
def iaE : String := "java/lang/IllegalArgumentException"
def isE' : String := "java/lang/IllegalStateException"
theorem c_reqV0 {v : Ev} {h : Hp} {top x k : Nat} {eo : Int} {G : GT} (hx : h x = some (xE x eo)) (hg : isG v h (x + 1) G) (hk : k < G.n) (hn : G.n ≤ 100) : Cal v mX10_requireVertex 1 0 0 [.ref x, .int (nI k)] h top (pV h top) noX := by
  refine Cal.ofJ (by decide +kernel) rfl (Nat.le_of_ble_eq_true rfl) fun hz0 => ?_
  refine r_ls [some (.ref x), some (.int (nI k))] rfl ?_
  refine r_iload_n (pc := 0) (i := 1) (tX10_requireVertex.at 0 rfl) rfl rfl ?_
  refine r_if_ltN (pc := 1) 15 (tX10_requireVertex.at 1 rfl) (by decide) (by omega) ?_
  refine r_iload_n (pc := 4) (i := 1) (tX10_requireVertex.at 2 rfl) rfl rfl ?_
  refine r_aload_n (pc := 5) (i := 0) (tX10_requireVertex.at 3 rfl) rfl rfl ?_
  refine r_get (pc := 6) (tX10_requireVertex.at 4 rfl) gf_X10_16 (hx) rfl ?_
  refine r_get (pc := 9) (tX10_requireVertex.at 5 rfl) gf_X10_127 (hg.1) rfl ?_
  refine r_icmp_ltN (pc := 12) 26 (tX10_requireVertex.at 6 rfl) (by decide) (by omega) (by omega) (fun _ => ?_) (fun c => by omega)
  refine r_vret (pc := 26) (tX10_requireVertex.at 12 rfl) rfl (Nat.le_of_ble_eq_true rfl) (Nat.le_of_ble_eq_true rfl) ?_
  exact ⟨rfl, rfl, rfl⟩
theorem okG.w {G : GT} (h : okG G) : ∀ k, k < 36 → G.W k < 2147483648 := fun k hk => by have := h.2.2.2.2 k hk; omega
theorem c_reqWay0 {v : Ev} {h : Hp} {top x i j : Nat} {eo : Int} {G : GT} (hx : h x = some (xE x eo)) (hg : isG v h (x + 1) G) (ok : okG G) (hi : i < G.n) (hj : j < 6) (hw : (rch G.W G.n i).testBit j = true) : Cal v mX10_requireWay 5 0 0 [.ref x, .int (nI i), .int (nI j)] h top (pV h top) noX := by
  refine Cal.ofJ (by decide +kernel) rfl (Nat.le_of_ble_eq_true rfl) fun hz0 => ?_
  refine r_ls [some (.ref x), some (.int (nI i)), some (.int (nI j))] rfl ?_
  refine r_aload_n (pc := 0) (i := 0) (tX10_requireWay.at 0 rfl) rfl rfl ?_
  refine r_get (pc := 1) (tX10_requireWay.at 1 rfl) gf_X10_16 (hx) rfl ?_
  refine r_iload_n (pc := 4) (i := 1) (tX10_requireWay.at 2 rfl) rfl rfl ?_
  refine r_iload_n (pc := 5) (i := 2) (tX10_requireWay.at 3 rfl) rfl rfl ?_
  refine r_callV (M' := mX3_hasWay) (pc := 6) (tX10_requireWay.at 4 rfl) ml_X10_244 rfl mw_X3_hasWay ⟨by decide, by decide⟩ (hg.1) rfl rfl (c_hasWay hg ok.1 hi hj ok.w) rfl rfl (Nat.le_of_ble_eq_true rfl) (Nat.le_of_ble_eq_true rfl) (Nat.le_of_ble_eq_true rfl) ?_
  rintro _ _ _ ⟨rfl, rfl, rfl⟩
  rw [hw]
  refine r_if_neN (pc := 9) 23 (tX10_requireWay.at 5 rfl) (by decide) (by decide) (fun _ => ?_) (fun z => absurd z (by decide))
  refine r_vret (pc := 23) (tX10_requireWay.at 11 rfl) rfl (Nat.le_of_ble_eq_true rfl) (Nat.le_of_ble_eq_true rfl) ?_
  exact ⟨rfl, rfl, rfl⟩
theorem and_lt {a b : Nat} (h : a < 64) : a &&& b < 64 := Nat.lt_of_le_of_lt Nat.and_le_left h
theorem c_reqAb0 {v : Ev} {h : Hp} {top x i : Nat} {eo : Int} {G : GT} (hx : h x = some (xE x eo)) (hg : isG v h (x + 1) G) (ok : okG G) (hi : i < G.n) (hw : rch G.W G.n i &&& G.a ≠ 0) : Cal v mX10_requireAbsorbingWay 4 0 0 [.ref x, .int (nI i)] h top (pV h top) noX := by
  have h1 : rch G.W G.n i < 64 := Nat.lt_of_lt_of_le (rch_lt hi) (p64 ok.1)
  refine Cal.ofJ (by decide +kernel) rfl (Nat.le_of_ble_eq_true rfl) fun hz0 => ?_
  refine r_ls [some (.ref x), some (.int (nI i))] rfl ?_
  refine r_aload_n (pc := 0) (i := 0) (tX10_requireAbsorbingWay.at 0 rfl) rfl rfl ?_
  refine r_get (pc := 1) (tX10_requireAbsorbingWay.at 1 rfl) gf_X10_16 (hx) rfl ?_
  refine r_iload_n (pc := 4) (i := 1) (tX10_requireAbsorbingWay.at 2 rfl) rfl rfl ?_
  refine r_callV (M' := mX3_component) (pc := 5) (tX10_requireAbsorbingWay.at 3 rfl) ml_X10_157 rfl mw_X3_component ⟨by decide, by decide⟩ (hg.1) rfl rfl (c_comp hg ok.1 hi ok.w) rfl rfl (Nat.le_of_ble_eq_true rfl) (Nat.le_of_ble_eq_true rfl) (Nat.le_of_ble_eq_true rfl) ?_
  rintro _ _ _ ⟨rfl, rfl, rfl⟩
  refine r_aload_n (pc := 8) (i := 0) (tX10_requireAbsorbingWay.at 4 rfl) rfl rfl ?_
  refine r_get (pc := 9) (tX10_requireAbsorbingWay.at 5 rfl) gf_X10_16 (hx) rfl ?_
  refine r_get (pc := 12) (tX10_requireAbsorbingWay.at 6 rfl) gf_X10_197 (hg.1) rfl ?_
  refine r_iand (pc := 15) (tX10_requireAbsorbingWay.at 7 rfl) ?_
  rw [bs_and _ h1 _ ok.2.2.1]
  refine r_if_neN (pc := 16) 30 (tX10_requireAbsorbingWay.at 8 rfl) (by decide) (by have := and_lt (b := G.a) h1; omega) (fun _ => ?_) (fun z => absurd z hw)
  refine r_vret (pc := 30) (tX10_requireAbsorbingWay.at 14 rfl) rfl (Nat.le_of_ble_eq_true rfl) (Nat.le_of_ble_eq_true rfl) ?_
  exact ⟨rfl, rfl, rfl⟩
theorem okG.b7 {G : GT} (h : okG G) : ∀ k, k < 6 → G.B k < 2147483648 := fun k hk => by have := h.2.2.2.1 k hk; omega
theorem pt_b {G : GT} (hn : G.n ≤ 6) (hb : G.b ≤ 6) : inI (ptN G.W G.B G.n G.b) ∧ -1 ≤ ptN G.W G.B G.n G.b := by
  unfold ptN
  split
  · next c2 =>
    have c3 : pqY G.W G.B G.n G.b (pqX G.W G.B G.n G.b) ≤ G.n := (fstN_spec _ _).1
    have c4 : fdN G.W G.B G.n G.b (pqX G.W G.B G.n G.b) (pqY G.W G.B G.n G.b (pqX G.W G.B G.n G.b)) ≤ G.b := (fstN_spec _ _).1
    unfold inI
    omega
  · exact ⟨⟨by omega, by omega⟩, by omega⟩
