/-! ===== the reference: answers without equations ===== -/
def frA (n d : Int) : Int := n.tdiv (frBy n d)
def frB (n d : Int) : Int := d.tdiv (frBy n d)
/-- an answer, with what is thrown -/
def pA (v : Ev) (h : Hp) (m : Nat) (S : MS) (top : Nat) (w : Value) (t : Nat) : Option Value → Hp → Nat → Prop := fun r h' top' => r = some w ∧ top = top' ∧ ∃ S', h' = mH v h m S' ∧ per S S' ∧ S'.thr = t
def iT (t : Nat) (x : Int32) : Value := .int (if t = 0 then x else 0)
def lT (t : Nat) (x : Int64) : Value := .long (if t = 0 then x else 0)
theorem tbS_at {G : GT} {cn : Nat} {cc : Nat → Int} (hw : wfG G) : ∀ e, e ≤ G.e → ∀ i, i < e → tbS G.W cc cn G.L G.H (fun _ => 0) e (G.L i * 6 + G.H i) = cst G.W cc cn (G.L i) (G.H i) ∧ tbS G.W cc cn G.L G.H (fun _ => 0) e (G.H i * 6 + G.L i) = cst G.W cc cn (G.H i) (G.L i)
  | 0, _, i, hi => by omega
  | e + 1, he, i, hi => by
    obtain ⟨l1, l2, -⟩ := hw.2.1 e (by omega)
    obtain ⟨m1, m2, -⟩ := hw.2.1 i (by omega)
    have h6 := hw.1.1
    have ih := fun q : i < e => tbS_at (cn := cn) (cc := cc) hw e (by omega) i q
    have key : ∀ x y, x < 6 → y < 6 → (x * 6 + y ≠ G.H e * 6 + G.L e → x * 6 + y ≠ G.L e * 6 + G.H e → tbS G.W cc cn G.L G.H (fun _ => 0) e (x * 6 + y) = cst G.W cc cn x y) → tbS G.W cc cn G.L G.H (fun _ => 0) (e + 1) (x * 6 + y) = cst G.W cc cn x y := by
      intro x y hx hy hh
      rw [tbS]
      by_cases c1 : x * 6 + y = G.H e * 6 + G.L e
      · rw [c1, upN_eq, show x = G.H e by omega, show y = G.L e by omega]
      · rw [upN_ne _ _ c1]
        by_cases c2 : x * 6 + y = G.L e * 6 + G.H e
        · rw [c2, upN_eq, show x = G.L e by omega, show y = G.H e by omega]
        · rw [upN_ne _ _ c2]
          exact hh c1 c2
    refine ⟨key _ _ (by omega) (by omega) (fun c1 c2 => ?_), key _ _ (by omega) (by omega) (fun c1 c2 => ?_)⟩
    · exact (ih (by by_cases q : i = e; · subst q; omega
                    · omega)).1
    · exact (ih (by by_cases q : i = e; · subst q; omega
                    · omega)).2
def edT (G : GT) (z y : Int) : Nat := if 0 ≤ z ∧ z < G.e then (if 0 ≤ y ∧ y ≤ 4 then 0 else 2) else 1
def abT (G : GT) (z y : Int) : Nat := if (0 ≤ z ∧ z < G.b) ∧ (0 ≤ y ∧ y < G.b) then (if ptB G = false then 0 else 2) else 1
def pAB (v : Ev) (h : Hp) (m : Nat) (S : MS) (top : Nat) (G : GT) (cn : Nat) (cc : Nat → Int) (t : Nat) : Option Value → Hp → Nat → Prop := fun r h' top' => r = some (.int (nI (Bool.toNat (decide (t = 0))))) ∧ top = top' ∧ ∃ S', h' = mH v h m S' ∧ per S S' ∧ S'.thr = t ∧ (t = 0 → lad S' G cn cc)
theorem ptN_1 {G : GT} : ptN G.W G.B G.n G.b = -1 ↔ ptB G = false := by
  unfold ptN ptB
  split
  · next c =>
    rw [decide_eq_true c]
    constructor
    · intro z; omega
    · intro z; cases z
  · next c =>
    rw [decide_eq_false c]
    simp
section
variable {v : Ev} {h : Hp} {top m : Nat} {S : MS} {G : GT} {cn : Nat} {cc : Nat → Int}
theorem per0 (S : MS) (t : Nat) : per S (S.s_thr t) := ⟨⟨rfl, rfl, rfl, rfl⟩, rfl, rfl⟩
theorem c_mErrO : Cal v mX11_errorOffset 1 0 0 [.ref m] (mH v h m S) top (pA v h m S top (.int (zI S.eat)) 0) noX := by
  refine Cal.ofJ (by decide +kernel) rfl (Nat.le_of_ble_eq_true rfl) fun hz0 => ?_
  refine r_ls [some (.ref m)] rfl ?_
  refine r_aload_n (pc := 0) (i := 0) (tX11_errorOffset.at 0 rfl) rfl rfl ?_
  refine r_iconst (pc := 1) (w := nI 0) (tX11_errorOffset.at 1 rfl) (by decide) ?_
  refine r_put (pc := 2) (tX11_errorOffset.at 2 rfl) pf_X11_55 (mH_0) (Nat.le_of_ble_eq_true rfl) (rfl) (rfl) ?_
  refine r_eq (h2 := mH v h m (S.s_thr 0)) (mH_p0 (S' := S.s_thr 0) rfl) rfl ?_
  refine r_aload_n (pc := 5) (i := 0) (tX11_errorOffset.at 3 rfl) rfl rfl ?_
  refine r_get (pc := 6) (tX11_errorOffset.at 4 rfl) gf_X11_19 (mH_0) rfl ?_
  refine r_iret (pc := 9) (tX11_errorOffset.at 5 rfl) rfl (Nat.le_of_ble_eq_true rfl) (Nat.le_of_ble_eq_true rfl) ?_
  exact ⟨rfl, rfl, _, rfl, per0 S 0, rfl⟩
theorem c_mSize (hg : rwG S G) : Cal v mX11_size 3 0 0 [.ref m] (mH v h m S) top (pA v h m S top (.int (nI G.n)) 0) noX := by
  refine Cal.ofJ (by decide +kernel) rfl (Nat.le_of_ble_eq_true rfl) fun hz0 => ?_
  refine r_ls [some (.ref m)] rfl ?_
  refine r_aload_n (pc := 0) (i := 0) (tX11_size.at 0 rfl) rfl rfl ?_
  refine r_iconst (pc := 1) (w := nI 0) (tX11_size.at 1 rfl) (by decide) ?_
  refine r_put (pc := 2) (tX11_size.at 2 rfl) pf_X11_55 (mH_0) (Nat.le_of_ble_eq_true rfl) (rfl) (rfl) ?_
  refine r_eq (h2 := mH v h m (S.s_thr 0)) (mH_p0 (S' := S.s_thr 0) rfl) rfl ?_
  refine r_aload_n (pc := 5) (i := 0) (tX11_size.at 3 rfl) rfl rfl ?_
  refine r_callV (M' := mX11_count) (pc := 6) (tX11_size.at 4 rfl) ml_X11_218 rfl mw_X11_count ⟨by decide, by decide⟩ (mH_0) rfl rfl (c_mCount (S := S.s_thr 0) hg.1) rfl rfl (Nat.le_of_ble_eq_true rfl) (Nat.le_of_ble_eq_true rfl) (Nat.le_of_ble_eq_true rfl) ?_
  rintro _ _ _ ⟨rfl, rfl, rfl⟩
  refine r_iret (pc := 9) (tX11_size.at 5 rfl) rfl (Nat.le_of_ble_eq_true rfl) (Nat.le_of_ble_eq_true rfl) ?_
  exact ⟨by rw [show (S.s_thr 0).rw 0 = G.n from hg.2.1], rfl, _, rfl, per0 S 0, rfl⟩
theorem c_mEdges (hg : rwG S G) : Cal v mX11_edgeCount 3 0 0 [.ref m] (mH v h m S) top (pA v h m S top (.int (nI G.e)) 0) noX := by
  refine Cal.ofJ (by decide +kernel) rfl (Nat.le_of_ble_eq_true rfl) fun hz0 => ?_
  refine r_ls [some (.ref m)] rfl ?_
  refine r_aload_n (pc := 0) (i := 0) (tX11_edgeCount.at 0 rfl) rfl rfl ?_
  refine r_iconst (pc := 1) (w := nI 0) (tX11_edgeCount.at 1 rfl) (by decide) ?_
  refine r_put (pc := 2) (tX11_edgeCount.at 2 rfl) pf_X11_55 (mH_0) (Nat.le_of_ble_eq_true rfl) (rfl) (rfl) ?_
  refine r_eq (h2 := mH v h m (S.s_thr 0)) (mH_p0 (S' := S.s_thr 0) rfl) rfl ?_
  refine r_aload_n (pc := 5) (i := 0) (tX11_edgeCount.at 3 rfl) rfl rfl ?_
  refine r_iconst (pc := 6) (w := nI 1) (tX11_edgeCount.at 4 rfl) (by decide) ?_
  refine r_callV (M' := mX11_get) (pc := 7) (tX11_edgeCount.at 5 rfl) ml_X11_61 rfl mw_X11_get ⟨by decide, by decide⟩ (mH_0) rfl rfl (c_mGet (S := S.s_thr 0) (k := 1) hg.1 (by omega)) rfl rfl (Nat.le_of_ble_eq_true rfl) (Nat.le_of_ble_eq_true rfl) (Nat.le_of_ble_eq_true rfl) ?_
  rintro _ _ _ ⟨rfl, rfl, rfl⟩
  refine r_iret (pc := 10) (tX11_edgeCount.at 6 rfl) rfl (Nat.le_of_ble_eq_true rfl) (Nat.le_of_ble_eq_true rfl) ?_
  exact ⟨by rw [show (S.s_thr 0).rw 1 = G.e from hg.2.2.1], rfl, _, rfl, per0 S 0, rfl⟩
theorem c_mAbsb (hg : rwG S G) : Cal v mX11_absorbing 3 0 0 [.ref m] (mH v h m S) top (pA v h m S top (.int (nI G.a)) 0) noX := by
  refine Cal.ofJ (by decide +kernel) rfl (Nat.le_of_ble_eq_true rfl) fun hz0 => ?_
  refine r_ls [some (.ref m)] rfl ?_
  refine r_aload_n (pc := 0) (i := 0) (tX11_absorbing.at 0 rfl) rfl rfl ?_
  refine r_iconst (pc := 1) (w := nI 0) (tX11_absorbing.at 1 rfl) (by decide) ?_
  refine r_put (pc := 2) (tX11_absorbing.at 2 rfl) pf_X11_55 (mH_0) (Nat.le_of_ble_eq_true rfl) (rfl) (rfl) ?_
  refine r_eq (h2 := mH v h m (S.s_thr 0)) (mH_p0 (S' := S.s_thr 0) rfl) rfl ?_
  refine r_aload_n (pc := 5) (i := 0) (tX11_absorbing.at 3 rfl) rfl rfl ?_
  refine r_iconst (pc := 6) (w := nI 2) (tX11_absorbing.at 4 rfl) (by decide) ?_
  refine r_callV (M' := mX11_get) (pc := 7) (tX11_absorbing.at 5 rfl) ml_X11_61 rfl mw_X11_get ⟨by decide, by decide⟩ (mH_0) rfl rfl (c_mGet (S := S.s_thr 0) (k := 2) hg.1 (by omega)) rfl rfl (Nat.le_of_ble_eq_true rfl) (Nat.le_of_ble_eq_true rfl) (Nat.le_of_ble_eq_true rfl) ?_
  rintro _ _ _ ⟨rfl, rfl, rfl⟩
  refine r_iret (pc := 10) (tX11_absorbing.at 6 rfl) rfl (Nat.le_of_ble_eq_true rfl) (Nat.le_of_ble_eq_true rfl) ?_
  exact ⟨by rw [show (S.s_thr 0).rw 2 = G.a from hg.2.2.2.1], rfl, _, rfl, per0 S 0, rfl⟩
theorem c_mDegree {z : Int} (hr : RW S G cn cc) (hz : inI z) : Cal v mX11_degree 5 0 0 [.ref m, .int (zI z)] (mH v h m S) top (pA v h m S top (iT (vtT G z) (nI (degN G.W z.toNat G.n))) (vtT G z)) noX := by
  have h6 := hr.2.1.1.1
  refine Cal.ofJ (by decide +kernel) rfl (Nat.le_of_ble_eq_true rfl) fun hz0 => ?_
  refine r_ls [some (.ref m), some (.int (zI z))] rfl ?_
  generalize hPo : pA v h m S top (iT (vtT G z) (nI (degN G.W z.toNat G.n))) (vtT G z) = Po
  refine r_aload_n (pc := 0) (i := 0) (tX11_degree.at 0 rfl) rfl rfl ?_
  refine r_iload_n (pc := 1) (i := 1) (tX11_degree.at 1 rfl) rfl rfl ?_
  refine r_callV (M' := mX11_starts) (pc := 2) (tX11_degree.at 2 rfl) ml_X11_274 rfl mw_X11_starts ⟨by decide, by decide⟩ (mH_0) rfl rfl ((c_mStarts hr hz)) rfl rfl (Nat.le_of_ble_eq_true rfl) (Nat.le_of_ble_eq_true rfl) (Nat.le_of_ble_eq_true rfl) ?_
  rintro _ _ _ ⟨rfl, rfl, S1, rfl, p1, t1, l1⟩
  by_cases c : vtT G z = 0
  · rw [decide_eq_true c, Bool.toNat_true]
    refine r_if_eqN (pc := 5) 17 (tX11_degree.at 3 rfl) (by decide) (by omega) (fun c => by omega) (fun _ => ?_)
    obtain ⟨i, rfl, hi⟩ := vt_nat c
    rw [zI_nat] at *
    refine r_aload_n (pc := 8) (i := 0) (tX11_degree.at 4 rfl) rfl rfl ?_
    refine r_get (pc := 9) (tX11_degree.at 5 rfl) gf_X11_29 (mH_0) rfl ?_
    refine r_iload_n (pc := 12) (i := 1) (tX11_degree.at 6 rfl) rfl rfl ?_
    refine r_iald (pc := 13) (tX11_degree.at 7 rfl) (mH_dgs) (i) (rfl) (by omega) (Nat.le_of_ble_eq_true rfl) ?_
    refine r_goto (pc := 14) 18 (tX11_degree.at 8 rfl) (by decide) ?_
    refine r_eq rfl (st2 := [.int (nI (degN G.W i G.n))]) (by rw [← l1.2 i (by omega)]; rfl) ?_
    refine r_iret (pc := 18) (tX11_degree.at 10 rfl) rfl (Nat.le_of_ble_eq_true rfl) (Nat.le_of_ble_eq_true rfl) ?_
    subst hPo
    exact ⟨by rw [iT, if_pos c, Int.toNat_natCast], rfl, S1, rfl, p1, t1⟩
  · rw [decide_eq_false c, Bool.toNat_false]
    refine r_if_eqN (pc := 5) 17 (tX11_degree.at 3 rfl) (by decide) (by omega) (fun _ => ?_) (fun c => by omega)
    refine r_iconst (pc := 17) (w := nI 0) (tX11_degree.at 9 rfl) (by decide) ?_
    refine r_iret (pc := 18) (tX11_degree.at 10 rfl) rfl (Nat.le_of_ble_eq_true rfl) (Nat.le_of_ble_eq_true rfl) ?_
    subst hPo
    exact ⟨by rw [iT, if_neg c]; rfl, rfl, S1, rfl, p1, t1⟩
theorem c_mReachable {z : Int} (hr : RW S G cn cc) (hz : inI z) : Cal v mX11_reachable 5 0 0 [.ref m, .int (zI z)] (mH v h m S) top (pA v h m S top (iT (vtT G z) (nI (rcm G.W G.n z.toNat))) (vtT G z)) noX := by
  have h6 := hr.2.1.1.1
  refine Cal.ofJ (by decide +kernel) rfl (Nat.le_of_ble_eq_true rfl) fun hz0 => ?_
  refine r_ls [some (.ref m), some (.int (zI z))] rfl ?_
  generalize hPo : pA v h m S top (iT (vtT G z) (nI (rcm G.W G.n z.toNat))) (vtT G z) = Po
  refine r_aload_n (pc := 0) (i := 0) (tX11_reachable.at 0 rfl) rfl rfl ?_
  refine r_iload_n (pc := 1) (i := 1) (tX11_reachable.at 1 rfl) rfl rfl ?_
  refine r_callV (M' := mX11_starts) (pc := 2) (tX11_reachable.at 2 rfl) ml_X11_274 rfl mw_X11_starts ⟨by decide, by decide⟩ (mH_0) rfl rfl ((c_mStarts hr hz)) rfl rfl (Nat.le_of_ble_eq_true rfl) (Nat.le_of_ble_eq_true rfl) (Nat.le_of_ble_eq_true rfl) ?_
  rintro _ _ _ ⟨rfl, rfl, S1, rfl, p1, t1, l1⟩
  by_cases c : vtT G z = 0
  · rw [decide_eq_true c, Bool.toNat_true]
    refine r_if_eqN (pc := 5) 16 (tX11_reachable.at 3 rfl) (by decide) (by omega) (fun c => by omega) (fun _ => ?_)
    obtain ⟨i, rfl, hi⟩ := vt_nat c
    rw [zI_nat] at *
    refine r_aload_n (pc := 8) (i := 0) (tX11_reachable.at 4 rfl) rfl rfl ?_
    refine r_iload_n (pc := 9) (i := 1) (tX11_reachable.at 5 rfl) rfl rfl ?_
    refine r_callV (M' := mX11_reachedFrom) (pc := 10) (tX11_reachable.at 6 rfl) ml_X11_249 rfl mw_X11_reachedFrom ⟨by decide, by decide⟩ (mH_0) rfl rfl (c_mReach (p1.rwG hr.1) l1 h6 (by omega) hr.2.1.w9) rfl rfl (Nat.le_of_ble_eq_true rfl) (Nat.le_of_ble_eq_true rfl) (Nat.le_of_ble_eq_true rfl) ?_
    rintro _ _ _ ⟨rfl, rfl, rfl⟩
    refine r_goto (pc := 13) 17 (tX11_reachable.at 7 rfl) (by decide) ?_
    refine r_iret (pc := 17) (tX11_reachable.at 9 rfl) rfl (Nat.le_of_ble_eq_true rfl) (Nat.le_of_ble_eq_true rfl) ?_
    subst hPo
    exact ⟨by rw [iT, if_pos c, Int.toNat_natCast], rfl, S1, rfl, p1, t1⟩
  · rw [decide_eq_false c, Bool.toNat_false]
    refine r_if_eqN (pc := 5) 16 (tX11_reachable.at 3 rfl) (by decide) (by omega) (fun _ => ?_) (fun c => by omega)
    refine r_iconst (pc := 16) (w := nI 0) (tX11_reachable.at 8 rfl) (by decide) ?_
    refine r_iret (pc := 17) (tX11_reachable.at 9 rfl) rfl (Nat.le_of_ble_eq_true rfl) (Nat.le_of_ble_eq_true rfl) ?_
    subst hPo
    exact ⟨by rw [iT, if_neg c]; rfl, rfl, S1, rfl, p1, t1⟩
theorem c_mBlockOf {z : Int} (hr : RW S G cn cc) (hz : inI z) : Cal v mX11_blockOf 5 0 0 [.ref m, .int (zI z)] (mH v h m S) top (pA v h m S top (iT (vtT G z) (nI (G.B z.toNat))) (vtT G z)) noX := by
  have h6 := hr.2.1.1.1
  refine Cal.ofJ (by decide +kernel) rfl (Nat.le_of_ble_eq_true rfl) fun hz0 => ?_
  refine r_ls [some (.ref m), some (.int (zI z))] rfl ?_
  generalize hPo : pA v h m S top (iT (vtT G z) (nI (G.B z.toNat))) (vtT G z) = Po
  refine r_aload_n (pc := 0) (i := 0) (tX11_blockOf.at 0 rfl) rfl rfl ?_
  refine r_iload_n (pc := 1) (i := 1) (tX11_blockOf.at 1 rfl) rfl rfl ?_
  refine r_callV (M' := mX11_starts) (pc := 2) (tX11_blockOf.at 2 rfl) ml_X11_274 rfl mw_X11_starts ⟨by decide, by decide⟩ (mH_0) rfl rfl ((c_mStarts hr hz)) rfl rfl (Nat.le_of_ble_eq_true rfl) (Nat.le_of_ble_eq_true rfl) (Nat.le_of_ble_eq_true rfl) ?_
  rintro _ _ _ ⟨rfl, rfl, S1, rfl, p1, t1, l1⟩
  by_cases c : vtT G z = 0
  · rw [decide_eq_true c, Bool.toNat_true]
    refine r_if_eqN (pc := 5) 19 (tX11_blockOf.at 3 rfl) (by decide) (by omega) (fun c => by omega) (fun _ => ?_)
    obtain ⟨i, rfl, hi⟩ := vt_nat c
    rw [zI_nat] at *
    have g1 := p1.rwG hr.1
    refine r_aload_n (pc := 8) (i := 0) (tX11_blockOf.at 4 rfl) rfl rfl ?_
    refine r_bipush (pc := 9) (w := nI 49) (tX11_blockOf.at 5 rfl) (by decide) ?_
    refine r_iload_n (pc := 11) (i := 1) (tX11_blockOf.at 6 rfl) rfl rfl ?_
    first | refine r_iaddN (pc := 12) (tX11_blockOf.at 7 rfl) ?_ | refine r_iaddZ (pc := 12) (tX11_blockOf.at 7 rfl) ?_ | refine r_iadd (pc := 12) (tX11_blockOf.at 7 rfl) ?_
    refine r_callV (M' := mX11_get) (pc := 13) (tX11_blockOf.at 8 rfl) ml_X11_61 rfl mw_X11_get ⟨by decide, by decide⟩ (mH_0) rfl rfl (c_mGet (k := 49 + i) g1.1 (by omega)) rfl rfl (Nat.le_of_ble_eq_true rfl) (Nat.le_of_ble_eq_true rfl) (Nat.le_of_ble_eq_true rfl) ?_
    rintro _ _ _ ⟨rfl, rfl, rfl⟩
    refine r_goto (pc := 16) 20 (tX11_blockOf.at 9 rfl) (by decide) ?_
    rw [g1.lab hi]
    refine r_iret (pc := 20) (tX11_blockOf.at 11 rfl) rfl (Nat.le_of_ble_eq_true rfl) (Nat.le_of_ble_eq_true rfl) ?_
    subst hPo
    exact ⟨by rw [iT, if_pos c, Int.toNat_natCast], rfl, S1, rfl, p1, t1⟩
  · rw [decide_eq_false c, Bool.toNat_false]
    refine r_if_eqN (pc := 5) 19 (tX11_blockOf.at 3 rfl) (by decide) (by omega) (fun _ => ?_) (fun c => by omega)
    refine r_iconst (pc := 19) (w := nI 0) (tX11_blockOf.at 10 rfl) (by decide) ?_
    refine r_iret (pc := 20) (tX11_blockOf.at 11 rfl) rfl (Nat.le_of_ble_eq_true rfl) (Nat.le_of_ble_eq_true rfl) ?_
    subst hPo
    exact ⟨by rw [iT, if_neg c]; rfl, rfl, S1, rfl, p1, t1⟩
theorem c_mTrans {z y : Int} {p : Nat} (hr : RW S G cn cc) (hz : inI z) (hy : inI y) (hp' : p ≤ 1) : Cal v mX11_transition 6 0 0 [.ref m, .int (zI z), .int (zI y), .int (nI p)] (mH v h m S) top (pA v h m S top (iT (if vtT G z = 0 then vtT G y else 1) (zI (fp p (frA (stN G.W G.n z.toNat y.toNat) (stD G.W G.n z.toNat)) (frB (stN G.W G.n z.toNat y.toNat) (stD G.W G.n z.toNat))))) (if vtT G z = 0 then vtT G y else 1)) noX := by
  have h6 := hr.2.1.1.1
  refine Cal.ofJ (by decide +kernel) rfl (Nat.le_of_ble_eq_true rfl) fun hz0 => ?_
  refine r_ls [some (.ref m), some (.int (zI z)), some (.int (zI y)), some (.int (nI p))] rfl ?_
  generalize ht : (if vtT G z = 0 then vtT G y else 1) = t
  generalize hPo : pA v h m S top (iT t _) t = Po
  refine r_aload_n (pc := 0) (i := 0) (tX11_transition.at 0 rfl) rfl rfl ?_
  refine r_iload_n (pc := 1) (i := 1) (tX11_transition.at 1 rfl) rfl rfl ?_
  refine r_iload_n (pc := 2) (i := 2) (tX11_transition.at 2 rfl) rfl rfl ?_
  refine r_callV (M' := mX11_starts2) (pc := 3) (tX11_transition.at 3 rfl) ml_X11_277 rfl mw_X11_starts2 ⟨by decide, by decide⟩ (mH_0) rfl rfl ((c_mStarts2 hr hz hy)) rfl rfl (Nat.le_of_ble_eq_true rfl) (Nat.le_of_ble_eq_true rfl) (Nat.le_of_ble_eq_true rfl) ?_
  rw [ht]
  rintro _ _ _ ⟨rfl, rfl, S1, rfl, p1, t1, l1⟩
  by_cases c : t = 0
  · rw [decide_eq_true c, Bool.toNat_true]
    refine r_if_neN (pc := 6) 11 (tX11_transition.at 4 rfl) (by decide) (by omega) (fun _ => ?_) (fun c => by omega)
    have cz : vtT G z = 0 := by
      by_cases q : vtT G z = 0
      · exact q
      · rw [if_neg q] at ht; omega
    have cy : vtT G y = 0 := by rw [if_pos cz] at ht; omega
    obtain ⟨i, rfl, hi⟩ := vt_nat cz
    obtain ⟨j, rfl, hj⟩ := vt_nat cy
    rw [zI_nat, zI_nat] at *
    refine r_aload_n (pc := 11) (i := 0) (tX11_transition.at 7 rfl) rfl rfl ?_
    refine r_iload_n (pc := 12) (i := 1) (tX11_transition.at 8 rfl) rfl rfl ?_
    refine r_iload_n (pc := 13) (i := 2) (tX11_transition.at 9 rfl) rfl rfl ?_
    refine r_callV (M' := mX11_step) (pc := 14) (tX11_transition.at 10 rfl) ml_X11_280 rfl mw_X11_step ⟨by decide, by decide⟩ (mH_0) rfl rfl (c_mStep l1 h6 (by omega) (by omega) hr.2.1.w9) rfl rfl (Nat.le_of_ble_eq_true rfl) (Nat.le_of_ble_eq_true rfl) (Nat.le_of_ble_eq_true rfl) ?_
    rintro _ _ _ ⟨rfl, rfl, rfl⟩
    refine r_aload_n (pc := 17) (i := 0) (tX11_transition.at 11 rfl) rfl rfl ?_
    refine r_iload_n (pc := 18) (i := 3) (tX11_transition.at 12 rfl) rfl rfl ?_
    refine r_callV (M' := mX11_told) (pc := 19) (tX11_transition.at 13 rfl) ml_X11_283 rfl mw_X11_told ⟨by decide, by decide⟩ (mH_0) rfl rfl (c_mTold hp') rfl rfl (Nat.le_of_ble_eq_true rfl) (Nat.le_of_ble_eq_true rfl) (Nat.le_of_ble_eq_true rfl) ?_
    rintro _ _ _ ⟨rfl, rfl, rfl⟩
    first | refine r_l2iZ (pc := 22) (tX11_transition.at 14 rfl) ?_ | refine r_l2i (pc := 22) (tX11_transition.at 14 rfl) ?_
    refine r_iret (pc := 23) (tX11_transition.at 15 rfl) rfl (Nat.le_of_ble_eq_true rfl) (Nat.le_of_ble_eq_true rfl) ?_
    subst hPo
    exact ⟨by rw [iT, if_pos c, Int.toNat_natCast, Int.toNat_natCast]; rfl, rfl, _, rfl, per.trans p1 ⟨⟨rfl, rfl, rfl, rfl⟩, rfl, rfl⟩, t1⟩
  · rw [decide_eq_false c, Bool.toNat_false]
    refine r_if_neN (pc := 6) 11 (tX11_transition.at 4 rfl) (by decide) (by omega) (fun c => by omega) (fun _ => ?_)
    refine r_iconst (pc := 9) (w := nI 0) (tX11_transition.at 5 rfl) (by decide) ?_
    refine r_iret (pc := 10) (tX11_transition.at 6 rfl) rfl (Nat.le_of_ble_eq_true rfl) (Nat.le_of_ble_eq_true rfl) ?_
    subst hPo
    exact ⟨by rw [iT, if_neg c]; rfl, rfl, S1, rfl, p1, t1⟩
theorem c_mEdge {z y : Int} (hr : RW S G cn cc) (hz : inI z) (hy : inI y) : Cal v mX11_edge 4 0 0 [.ref m, .int (zI z), .int (zI y)] (mH v h m S) top (pA v h m S top (iT (edT G z y) (nI (edV G cn cc z.toNat y.toNat))) (edT G z y)) noX := by
  have h15 := hr.2.1.1.2.1
  have h6 := hr.2.1.1.1
  have hg := hr.1
  refine Cal.ofJ (by decide +kernel) rfl (Nat.le_of_ble_eq_true rfl) fun hz0 => ?_
  refine r_ls [some (.ref m), some (.int (zI z)), some (.int (zI y)), none, none] rfl ?_
  generalize hPo : pA v h m S top (iT (edT G z y) (nI (edV G cn cc z.toNat y.toNat))) (edT G z y) = Po
  refine r_aload_n (pc := 0) (i := 0) (tX11_edge.at 0 rfl) rfl rfl ?_
  refine r_iload_n (pc := 1) (i := 1) (tX11_edge.at 1 rfl) rfl rfl ?_
  refine r_callV (M' := mX11_isEdge) (pc := 2) (tX11_edge.at 2 rfl) ml_X11_262 rfl mw_X11_isEdge ⟨by decide, by decide⟩ (mH_0) rfl rfl (c_mIsE hg.1 hz (by rw [hg.2.2.1]; exact h15)) rfl rfl (Nat.le_of_ble_eq_true rfl) (Nat.le_of_ble_eq_true rfl) (Nat.le_of_ble_eq_true rfl) ?_
  rintro _ _ _ ⟨rfl, rfl, rfl⟩
  rw [hg.2.2.1]
  obtain ⟨q1, -, -, -, q5⟩ := rgt_pel (S := S.s_thr 0) (b := inB z 0 ((G.e : Nat) - 1)) (c := 1)
  have q1 := per.trans (per0 S 0) q1
  generalize hS1 : (S.s_thr 0).rgt (inB z 0 ((G.e : Nat) - 1)) 1 = S1 at *
  by_cases c : 0 ≤ z ∧ z < G.e
  · have t1 : S1.thr = 0 := by
      rw [q5, inB_t.mpr c, if_neg (by simp)]
      rfl
    rw [show okT0 S1 = true from decide_eq_true t1, Bool.toNat_true]
    refine r_if_eqN (pc := 5) 25 (tX11_edge.at 3 rfl) (by decide) (by omega) (fun c => by omega) (fun _ => ?_)
    obtain ⟨i, rfl⟩ := Int.eq_ofNat_of_zero_le c.1
    obtain ⟨y1, y2⟩ := hy
    have g1 := q1.rwG hg
    refine r_aload_n (pc := 8) (i := 0) (tX11_edge.at 4 rfl) rfl rfl ?_
    refine r_iload_n (pc := 9) (i := 2) (tX11_edge.at 5 rfl) rfl rfl ?_
    refine r_i2lZ (pc := 10) (tX11_edge.at 6 rfl) ⟨by omega, by omega⟩ ?_
    refine r_lconst (pc := 11) (w := lI 0) (tX11_edge.at 7 rfl) (by decide) ?_
    refine r_ldc2 (pc := 12) (tX11_edge.at 8 rfl) lcL_X11_266 ?_
    refine r_callS (M' := mX11_isIn) (pc := 15) (tX11_edge.at 9 rfl) ml_X11_114 rfl mw_X11_isIn ⟨by decide, by decide⟩ (c_mIsIn ⟨by omega, by omega⟩ ⟨by omega, by omega⟩ ⟨by omega, by omega⟩) rfl rfl (Nat.le_of_ble_eq_true rfl) (Nat.le_of_ble_eq_true rfl) (Nat.le_of_ble_eq_true rfl) ?_
    rintro _ _ _ ⟨rfl, rfl, rfl⟩
    refine r_iconst (pc := 18) (w := nI 2) (tX11_edge.at 10 rfl) (by decide) ?_
    refine r_callV (M' := mX11_right) (pc := 19) (tX11_edge.at 11 rfl) ml_X11_190 rfl mw_X11_right ⟨by decide, by decide⟩ (mH_0) rfl rfl (c_mRight (S := S1) (by omega) (by omega)) rfl rfl (Nat.le_of_ble_eq_true rfl) (Nat.le_of_ble_eq_true rfl) (Nat.le_of_ble_eq_true rfl) ?_
    rintro _ _ _ ⟨rfl, rfl, rfl⟩
    obtain ⟨r1, -, -, -, r5⟩ := rgt_pel (S := S1) (b := inB y 0 4) (c := 2)
    have r1 := per.trans q1 r1
    generalize hS2 : S1.rgt (inB y 0 4) 2 = S2 at *
    by_cases c2 : 0 ≤ y ∧ y ≤ 4
    · have t2 : S2.thr = 0 := by
        rw [r5, t1, show inB y 0 4 = true from decide_eq_true c2, if_neg (by simp)]
      rw [show okT0 S2 = true from decide_eq_true t2, Bool.toNat_true]
      have g2 := r1.rwG hg
      have et : edT G i y = 0 := by rw [edT, if_pos c, if_pos c2]
      obtain ⟨w, rfl⟩ := Int.eq_ofNat_of_zero_le c2.1
      obtain ⟨w1, w2, w3⟩ := g2.2.2.2.2.1 i (by omega)
      obtain ⟨l1, l2, l3⟩ := hr.2.1.2.1 i (by omega)
      have hw5 : w < 5 := by omega
      rw [zI_nat, zI_nat] at *
      rw [et] at hPo
      refine r_if_neN (pc := 22) 27 (tX11_edge.at 12 rfl) (by decide) (by omega) (fun _ => ?_) (fun c => by omega)
      refine r_iload_n (pc := 27) (i := 2) (tX11_edge.at 15 rfl) rfl rfl ?_
      refine r_iconst (pc := 28) (w := nI 3) (tX11_edge.at 16 rfl) (by decide) ?_
      refine r_icmp_geN (pc := 29) 44 (tX11_edge.at 17 rfl) (by decide) (by omega) (by omega) (fun c3 => ?_) (fun c3 => ?_)
      · -- costs
        refine r_aload_n (pc := 44) (i := 0) (tX11_edge.at 28 rfl) rfl rfl ?_
        refine r_callV (M' := mX11_lays) (pc := 45) (tX11_edge.at 29 rfl) ml_X11_268 rfl mw_X11_lays ⟨by decide, by decide⟩ (mH_0) rfl rfl ((c_mLays (r1.RW hr))) rfl rfl (Nat.le_of_ble_eq_true rfl) (Nat.le_of_ble_eq_true rfl) (Nat.le_of_ble_eq_true rfl) ?_
        rintro _ _ _ ⟨rfl, rfl, S3, rfl, p3, t3, l3'⟩
        have g3 := p3.rwG g2
        obtain ⟨v1, v2, v3⟩ := g3.2.2.2.2.1 i (by omega)
        refine r_aload_n (pc := 48) (i := 0) (tX11_edge.at 30 rfl) rfl rfl ?_
        refine r_iconst (pc := 49) (w := nI 4) (tX11_edge.at 31 rfl) (by decide) ?_
        refine r_iconst (pc := 50) (w := nI 3) (tX11_edge.at 32 rfl) (by decide) ?_
        refine r_iload_n (pc := 51) (i := 1) (tX11_edge.at 33 rfl) rfl rfl ?_
        first | refine r_imulN (pc := 52) (tX11_edge.at 34 rfl) ?_ | refine r_imulZ (pc := 52) (tX11_edge.at 34 rfl) ?_ | refine r_imul (pc := 52) (tX11_edge.at 34 rfl) ?_
        first | refine r_iaddN (pc := 53) (tX11_edge.at 35 rfl) ?_ | refine r_iaddZ (pc := 53) (tX11_edge.at 35 rfl) ?_ | refine r_iadd (pc := 53) (tX11_edge.at 35 rfl) ?_
        refine r_callV (M' := mX11_get) (pc := 54) (tX11_edge.at 36 rfl) ml_X11_61 rfl mw_X11_get ⟨by decide, by decide⟩ (mH_0) rfl rfl (c_mGet (k := 4 + 3 * i) g3.1 (by omega)) rfl rfl (Nat.le_of_ble_eq_true rfl) (Nat.le_of_ble_eq_true rfl) (Nat.le_of_ble_eq_true rfl) ?_
        rintro _ _ _ ⟨rfl, rfl, rfl⟩
        rw [v1]
        refine r_istore_n (pc := 57) (i := 3) (tX11_edge.at 37 rfl) rfl (by decide) ?_
        refine r_aload_n (pc := 58) (i := 0) (tX11_edge.at 38 rfl) rfl rfl ?_
        refine r_iconst (pc := 59) (w := nI 4) (tX11_edge.at 39 rfl) (by decide) ?_
        refine r_iconst (pc := 60) (w := nI 3) (tX11_edge.at 40 rfl) (by decide) ?_
        refine r_iload_n (pc := 61) (i := 1) (tX11_edge.at 41 rfl) rfl rfl ?_
        first | refine r_imulN (pc := 62) (tX11_edge.at 42 rfl) ?_ | refine r_imulZ (pc := 62) (tX11_edge.at 42 rfl) ?_ | refine r_imul (pc := 62) (tX11_edge.at 42 rfl) ?_
        first | refine r_iaddN (pc := 63) (tX11_edge.at 43 rfl) ?_ | refine r_iaddZ (pc := 63) (tX11_edge.at 43 rfl) ?_ | refine r_iadd (pc := 63) (tX11_edge.at 43 rfl) ?_
        refine r_iconst (pc := 64) (w := nI 1) (tX11_edge.at 44 rfl) (by decide) ?_
        first | refine r_iaddN (pc := 65) (tX11_edge.at 45 rfl) ?_ | refine r_iaddZ (pc := 65) (tX11_edge.at 45 rfl) ?_ | refine r_iadd (pc := 65) (tX11_edge.at 45 rfl) ?_
        refine r_callV (M' := mX11_get) (pc := 66) (tX11_edge.at 46 rfl) ml_X11_61 rfl mw_X11_get ⟨by decide, by decide⟩ (mH_0) rfl rfl (c_mGet (k := 4 + 3 * i + 1) g3.1 (by omega)) rfl rfl (Nat.le_of_ble_eq_true rfl) (Nat.le_of_ble_eq_true rfl) (Nat.le_of_ble_eq_true rfl) ?_
        rintro _ _ _ ⟨rfl, rfl, rfl⟩
        rw [v2]
        refine r_istore (pc := 69) (i := 4) (tX11_edge.at 47 rfl) (by decide) ?_
        refine r_iload_n (pc := 71) (i := 2) (tX11_edge.at 48 rfl) rfl rfl ?_
        refine r_iconst (pc := 72) (w := nI 3) (tX11_edge.at 49 rfl) (by decide) ?_
        obtain ⟨e1, e2⟩ := tbS_at (cn := cn) (cc := cc) hr.2.1 G.e (Nat.le_refl _) i (by omega)
        have fin : ∀ z, z = edV G cn cc i w → Po (some (.int (nI z))) (mH v h m S3) top := by
          intro z hz
          subst hPo
          exact ⟨by rw [hz, iT, if_pos rfl, Int.toNat_natCast, Int.toNat_natCast], rfl, S3, rfl, per.trans r1 p3, by rw [t3, t2]⟩
        refine r_icmp_neN (pc := 73) 91 (tX11_edge.at 50 rfl) (by decide) (by omega) (by omega) (fun c4 => ?_) (fun c4 => ?_)
        · refine r_aload_n (pc := 91) (i := 0) (tX11_edge.at 60 rfl) rfl rfl ?_
          refine r_get (pc := 92) (tX11_edge.at 61 rfl) gf_X11_26 (mH_0) rfl ?_
          refine r_bipush (pc := 95) (w := nI 6) (tX11_edge.at 62 rfl) (by decide) ?_
          refine r_iload (pc := 97) (i := 4) (tX11_edge.at 63 rfl) rfl ?_
          first | refine r_imulN (pc := 99) (tX11_edge.at 64 rfl) ?_ | refine r_imulZ (pc := 99) (tX11_edge.at 64 rfl) ?_ | refine r_imul (pc := 99) (tX11_edge.at 64 rfl) ?_
          refine r_iload_n (pc := 100) (i := 3) (tX11_edge.at 65 rfl) rfl rfl ?_
          first | refine r_iaddN (pc := 101) (tX11_edge.at 66 rfl) ?_ | refine r_iaddZ (pc := 101) (tX11_edge.at 66 rfl) ?_ | refine r_iadd (pc := 101) (tX11_edge.at 66 rfl) ?_
          refine r_iald (pc := 102) (tX11_edge.at 67 rfl) (mH_cst) (6 * G.H i + G.L i) (rfl) (by omega) (Nat.le_of_ble_eq_true rfl) ?_
          refine r_eq rfl (st2 := [.int (nI (cst G.W cc cn (G.H i) (G.L i)))]) (by rw [← e2]; show [Value.int (nI (S3.cst _))] = _; rw [(l3'.1 (G.H i) (G.L i) (by omega) (by omega)).2]; rfl) ?_
          refine r_iret (pc := 103) (tX11_edge.at 68 rfl) rfl (Nat.le_of_ble_eq_true rfl) (Nat.le_of_ble_eq_true rfl) ?_
          exact fin _ (by rw [edV, if_neg (by omega), if_neg (by omega), if_neg (by omega), if_neg (by omega)])
        · refine r_aload_n (pc := 76) (i := 0) (tX11_edge.at 51 rfl) rfl rfl ?_
          refine r_get (pc := 77) (tX11_edge.at 52 rfl) gf_X11_26 (mH_0) rfl ?_
          refine r_bipush (pc := 80) (w := nI 6) (tX11_edge.at 53 rfl) (by decide) ?_
          refine r_iload_n (pc := 82) (i := 3) (tX11_edge.at 54 rfl) rfl rfl ?_
          first | refine r_imulN (pc := 83) (tX11_edge.at 55 rfl) ?_ | refine r_imulZ (pc := 83) (tX11_edge.at 55 rfl) ?_ | refine r_imul (pc := 83) (tX11_edge.at 55 rfl) ?_
          refine r_iload (pc := 84) (i := 4) (tX11_edge.at 56 rfl) rfl ?_
          first | refine r_iaddN (pc := 86) (tX11_edge.at 57 rfl) ?_ | refine r_iaddZ (pc := 86) (tX11_edge.at 57 rfl) ?_ | refine r_iadd (pc := 86) (tX11_edge.at 57 rfl) ?_
          refine r_iald (pc := 87) (tX11_edge.at 58 rfl) (mH_cst) (6 * G.L i + G.H i) (rfl) (by omega) (Nat.le_of_ble_eq_true rfl) ?_
          refine r_goto (pc := 88) 103 (tX11_edge.at 59 rfl) (by decide) ?_
          refine r_eq rfl (st2 := [.int (nI (cst G.W cc cn (G.L i) (G.H i)))]) (by rw [← e1]; show [Value.int (nI (S3.cst _))] = _; rw [(l3'.1 (G.L i) (G.H i) (by omega) (by omega)).2]; rfl) ?_
          refine r_iret (pc := 103) (tX11_edge.at 68 rfl) rfl (Nat.le_of_ble_eq_true rfl) (Nat.le_of_ble_eq_true rfl) ?_
          exact fin _ (by rw [edV, if_neg (by omega), if_neg (by omega), if_neg (by omega), if_pos (by omega)])
      · have ev : S2.rw (4 + 3 * i + w) = edV G cn cc i w := by
          rcases (show w = 0 ∨ w = 1 ∨ w = 2 by omega) with rfl | rfl | rfl
          · exact w1
          · exact w2
          · exact w3
        refine r_aload_n (pc := 32) (i := 0) (tX11_edge.at 18 rfl) rfl rfl ?_
        refine r_iconst (pc := 33) (w := nI 4) (tX11_edge.at 19 rfl) (by decide) ?_
        refine r_iconst (pc := 34) (w := nI 3) (tX11_edge.at 20 rfl) (by decide) ?_
        refine r_iload_n (pc := 35) (i := 1) (tX11_edge.at 21 rfl) rfl rfl ?_
        first | refine r_imulN (pc := 36) (tX11_edge.at 22 rfl) ?_ | refine r_imulZ (pc := 36) (tX11_edge.at 22 rfl) ?_ | refine r_imul (pc := 36) (tX11_edge.at 22 rfl) ?_
        first | refine r_iaddN (pc := 37) (tX11_edge.at 23 rfl) ?_ | refine r_iaddZ (pc := 37) (tX11_edge.at 23 rfl) ?_ | refine r_iadd (pc := 37) (tX11_edge.at 23 rfl) ?_
        refine r_iload_n (pc := 38) (i := 2) (tX11_edge.at 24 rfl) rfl rfl ?_
        first | refine r_iaddN (pc := 39) (tX11_edge.at 25 rfl) ?_ | refine r_iaddZ (pc := 39) (tX11_edge.at 25 rfl) ?_ | refine r_iadd (pc := 39) (tX11_edge.at 25 rfl) ?_
        refine r_callV (M' := mX11_get) (pc := 40) (tX11_edge.at 26 rfl) ml_X11_61 rfl mw_X11_get ⟨by decide, by decide⟩ (mH_0) rfl rfl (c_mGet (k := 4 + 3 * i + w) g2.1 (by omega)) rfl rfl (Nat.le_of_ble_eq_true rfl) (Nat.le_of_ble_eq_true rfl) (Nat.le_of_ble_eq_true rfl) ?_
        rintro _ _ _ ⟨rfl, rfl, rfl⟩
        rw [ev]
        refine r_iret (pc := 43) (tX11_edge.at 27 rfl) rfl (Nat.le_of_ble_eq_true rfl) (Nat.le_of_ble_eq_true rfl) ?_
        subst hPo
        exact ⟨by rw [iT, if_pos rfl, Int.toNat_natCast, Int.toNat_natCast], rfl, S2, rfl, r1, t2⟩
    · have t2 : S2.thr = 2 := by
        rw [r5, t1, show inB y 0 4 = false from decide_eq_false c2, if_pos ⟨rfl, rfl⟩]
      rw [show okT0 S2 = false from decide_eq_false (by omega), Bool.toNat_false]
      have et : edT G i y = 2 := by rw [edT, if_pos c, if_neg c2]
      rw [et] at hPo
      refine r_if_neN (pc := 22) 27 (tX11_edge.at 12 rfl) (by decide) (by omega) (fun c => by omega) (fun _ => ?_)
      refine r_iconst (pc := 25) (w := nI 0) (tX11_edge.at 13 rfl) (by decide) ?_
      refine r_iret (pc := 26) (tX11_edge.at 14 rfl) rfl (Nat.le_of_ble_eq_true rfl) (Nat.le_of_ble_eq_true rfl) ?_
      subst hPo
      exact ⟨rfl, rfl, S2, rfl, r1, t2⟩
  · have t1 : S1.thr = 1 := by
      rw [q5, inB_f.mpr (by omega), if_pos ⟨rfl, rfl⟩]
    rw [show okT0 S1 = false from decide_eq_false (by omega), Bool.toNat_false]
    have et : edT G z y = 1 := by rw [edT, if_neg c]
    rw [et] at hPo
    refine r_if_eqN (pc := 5) 25 (tX11_edge.at 3 rfl) (by decide) (by omega) (fun _ => ?_) (fun c => by omega)
    refine r_iconst (pc := 25) (w := nI 0) (tX11_edge.at 13 rfl) (by decide) ?_
    refine r_iret (pc := 26) (tX11_edge.at 14 rfl) rfl (Nat.le_of_ble_eq_true rfl) (Nat.le_of_ble_eq_true rfl) ?_
    subst hPo
    exact ⟨rfl, rfl, S1, rfl, q1, t1⟩
end

