/-! ===== the reference: small methods ===== -/
def MS.rw (S : MS) (k : Nat) : Nat := S.rws (1240 * S.now + k)
def MS.s_rw (S : MS) (k y : Nat) : MS := S.s_rws (upN S.rws (1240 * S.now + k) y)
section
variable {v : Ev} {h : Hp} {top m : Nat} {S : MS}
theorem c_mGet {k : Nat} (hn : S.now < 9) (hk : k < 1240) : Cal v mX11_get 1 0 0 [.ref m, .int (nI k)] (mH v h m S) top (pR (.int (nI (S.rw k))) (mH v h m S) top) noX := by
  refine Cal.ofJ (by decide +kernel) rfl (Nat.le_of_ble_eq_true rfl) fun hz0 => ?_
  refine r_ls [some (.ref m), some (.int (nI k))] rfl ?_
  refine r_aload_n (pc := 0) (i := 0) (tX11_get.at 0 rfl) rfl rfl ?_
  refine r_get (pc := 1) (tX11_get.at 1 rfl) gf_X11_7 (mH_0) rfl ?_
  refine r_sipush (pc := 4) (w := nI 1240) (tX11_get.at 2 rfl) (by decide) ?_
  refine r_aload_n (pc := 7) (i := 0) (tX11_get.at 3 rfl) rfl rfl ?_
  refine r_get (pc := 8) (tX11_get.at 4 rfl) gf_X11_58 (mH_0) rfl ?_
  refine r_eq rfl (st2 := [.int (nI S.now), .int (nI 1240), .ref (m + 1)]) rfl ?_
  first | refine r_imulN (pc := 11) (tX11_get.at 5 rfl) ?_ | refine r_imulZ (pc := 11) (tX11_get.at 5 rfl) ?_ | refine r_imul (pc := 11) (tX11_get.at 5 rfl) ?_
  refine r_iload_n (pc := 12) (i := 1) (tX11_get.at 6 rfl) rfl rfl ?_
  first | refine r_iaddN (pc := 13) (tX11_get.at 7 rfl) ?_ | refine r_iaddZ (pc := 13) (tX11_get.at 7 rfl) ?_ | refine r_iadd (pc := 13) (tX11_get.at 7 rfl) ?_
  refine r_iald (pc := 14) (tX11_get.at 8 rfl) (mH_rws) (1240 * S.now + k) (rfl) (by omega) (Nat.le_of_ble_eq_true rfl) ?_
  refine r_iret (pc := 15) (tX11_get.at 9 rfl) rfl (Nat.le_of_ble_eq_true rfl) (Nat.le_of_ble_eq_true rfl) ?_
  exact ⟨rfl, rfl, rfl⟩
theorem c_mPut {k y : Nat} (hn : S.now < 9) (hk : k < 1240) : Cal v mX11_put 1 0 0 [.ref m, .int (nI k), .int (nI y)] (mH v h m S) top (pV (mH v h m (S.s_rw k y)) top) noX := by
  refine Cal.ofJ (by decide +kernel) rfl (Nat.le_of_ble_eq_true rfl) fun hz0 => ?_
  refine r_ls [some (.ref m), some (.int (nI k)), some (.int (nI y))] rfl ?_
  refine r_aload_n (pc := 0) (i := 0) (tX11_put.at 0 rfl) rfl rfl ?_
  refine r_get (pc := 1) (tX11_put.at 1 rfl) gf_X11_7 (mH_0) rfl ?_
  refine r_sipush (pc := 4) (w := nI 1240) (tX11_put.at 2 rfl) (by decide) ?_
  refine r_aload_n (pc := 7) (i := 0) (tX11_put.at 3 rfl) rfl rfl ?_
  refine r_get (pc := 8) (tX11_put.at 4 rfl) gf_X11_58 (mH_0) rfl ?_
  refine r_eq rfl (st2 := [.int (nI S.now), .int (nI 1240), .ref (m + 1)]) rfl ?_
  first | refine r_imulN (pc := 11) (tX11_put.at 5 rfl) ?_ | refine r_imulZ (pc := 11) (tX11_put.at 5 rfl) ?_ | refine r_imul (pc := 11) (tX11_put.at 5 rfl) ?_
  refine r_iload_n (pc := 12) (i := 1) (tX11_put.at 6 rfl) rfl rfl ?_
  first | refine r_iaddN (pc := 13) (tX11_put.at 7 rfl) ?_ | refine r_iaddZ (pc := 13) (tX11_put.at 7 rfl) ?_ | refine r_iadd (pc := 13) (tX11_put.at 7 rfl) ?_
  refine r_iload_n (pc := 14) (i := 2) (tX11_put.at 8 rfl) rfl rfl ?_
  refine r_iast (pc := 15) (tX11_put.at 9 rfl) (mH_rws) (1240 * S.now + k) (rfl) (by omega) (Nat.le_of_ble_eq_true rfl) ?_
  rw [upd_iF, mH_srws]
  refine r_vret (pc := 16) (tX11_put.at 10 rfl) rfl (Nat.le_of_ble_eq_true rfl) (Nat.le_of_ble_eq_true rfl) ?_
  exact ⟨rfl, rfl, rfl⟩
theorem c_mThr : Cal v mX11_thrown 1 0 0 [.ref m] (mH v h m S) top (pR (.int (nI S.thr)) (mH v h m S) top) noX := by
  refine Cal.ofJ (by decide +kernel) rfl (Nat.le_of_ble_eq_true rfl) fun hz0 => ?_
  refine r_ls [some (.ref m)] rfl ?_
  refine r_aload_n (pc := 0) (i := 0) (tX11_thrown.at 0 rfl) rfl rfl ?_
  refine r_get (pc := 1) (tX11_thrown.at 1 rfl) gf_X11_55 (mH_0) rfl ?_
  refine r_iret (pc := 4) (tX11_thrown.at 2 rfl) rfl (Nat.le_of_ble_eq_true rfl) (Nat.le_of_ble_eq_true rfl) ?_
  exact ⟨rfl, rfl, rfl⟩
theorem c_mCount (hn : S.now < 9) : Cal v mX11_count 2 0 0 [.ref m] (mH v h m S) top (pR (.int (nI (S.rw 0))) (mH v h m S) top) noX := by
  refine Cal.ofJ (by decide +kernel) rfl (Nat.le_of_ble_eq_true rfl) fun hz0 => ?_
  refine r_ls [some (.ref m)] rfl ?_
  refine r_aload_n (pc := 0) (i := 0) (tX11_count.at 0 rfl) rfl rfl ?_
  refine r_iconst (pc := 1) (w := nI 0) (tX11_count.at 1 rfl) (by decide) ?_
  refine r_callV (M' := mX11_get) (pc := 2) (tX11_count.at 2 rfl) ml_X11_61 rfl mw_X11_get ⟨by decide, by decide⟩ (mH_0) rfl rfl (c_mGet (k := 0) hn (by omega)) rfl rfl (Nat.le_of_ble_eq_true rfl) (Nat.le_of_ble_eq_true rfl) (Nat.le_of_ble_eq_true rfl) ?_
  rintro _ _ _ ⟨rfl, rfl, rfl⟩
  refine r_iret (pc := 5) (tX11_count.at 3 rfl) rfl (Nat.le_of_ble_eq_true rfl) (Nat.le_of_ble_eq_true rfl) ?_
  exact ⟨rfl, rfl, rfl⟩
def inB (x l u : Int) : Bool := decide (l ≤ x ∧ x ≤ u)
theorem c_mIsIn {h : Hp} {x l u : Int} (hx : inL x) (hl : inL l) (hu : inL u) : Cal v mX11_isIn 1 0 0 [.long (lI x), .long (lI l), .long (lI u)] h top (pR (.int (nI (Bool.toNat (inB x l u)))) h top) noX := by
  refine Cal.ofJ (by decide +kernel) rfl (Nat.le_of_ble_eq_true rfl) fun hz0 => ?_
  refine r_ls [some (.long (lI x)), none, some (.long (lI l)), none, some (.long (lI u)), none] rfl ?_
  refine r_lload_n (pc := 0) (i := 0) (tX11_isIn.at 0 rfl) rfl rfl ?_
  refine r_lload_n (pc := 1) (i := 2) (tX11_isIn.at 1 rfl) rfl rfl ?_
  refine r_lc_lt (pc := 2) 17 (tX11_isIn.at 2 rfl) (tX11_isIn.at 3 rfl) (by decide) (hx) (hl) (fun c => ?_) (fun c => ?_)
  · refine r_iconst (pc := 17) (w := nI 0) (tX11_isIn.at 10 rfl) (by decide) ?_
    refine r_zret (pc := 18) (tX11_isIn.at 11 rfl) rfl (rfl) (Nat.le_of_ble_eq_true rfl) (Nat.le_of_ble_eq_true rfl) ?_
    rw [show inB x l u = false from decide_eq_false (by omega)]
    exact ⟨rfl, rfl, rfl⟩
  · refine r_lload_n (pc := 6) (i := 0) (tX11_isIn.at 4 rfl) rfl rfl ?_
    refine r_lload (pc := 7) (i := 4) (tX11_isIn.at 5 rfl) rfl ?_
    refine r_lc_gt (pc := 9) 17 (tX11_isIn.at 6 rfl) (tX11_isIn.at 7 rfl) (by decide) (hx) (hu) (fun c2 => ?_) (fun c2 => ?_)
    · refine r_iconst (pc := 17) (w := nI 0) (tX11_isIn.at 10 rfl) (by decide) ?_
      refine r_zret (pc := 18) (tX11_isIn.at 11 rfl) rfl (rfl) (Nat.le_of_ble_eq_true rfl) (Nat.le_of_ble_eq_true rfl) ?_
      rw [show inB x l u = false from decide_eq_false (by omega)]
      exact ⟨rfl, rfl, rfl⟩
    · refine r_iconst (pc := 13) (w := nI 1) (tX11_isIn.at 8 rfl) (by decide) ?_
      refine r_goto (pc := 14) 18 (tX11_isIn.at 9 rfl) (by decide) ?_
      refine r_zret (pc := 18) (tX11_isIn.at 11 rfl) rfl (rfl) (Nat.le_of_ble_eq_true rfl) (Nat.le_of_ble_eq_true rfl) ?_
      rw [show inB x l u = true from decide_eq_true ⟨c, c2⟩]
      exact ⟨rfl, rfl, rfl⟩
def MS.rgt (S : MS) (b : Bool) (c : Nat) : MS := if S.thr = 0 ∧ b = false then S.s_thr c else S
def okT0 (S : MS) : Bool := decide (S.thr = 0)
theorem c_mRight {b : Bool} {c : Nat} (ht : S.thr < 65536) (hc : c < 65536) : Cal v mX11_right 1 0 0 [.ref m, .int (nI (Bool.toNat b)), .int (nI c)] (mH v h m S) top (pR (.int (nI (Bool.toNat (okT0 (S.rgt b c))))) (mH v h m (S.rgt b c)) top) noX := by
  refine Cal.ofJ (by decide +kernel) rfl (Nat.le_of_ble_eq_true rfl) fun hz0 => ?_
  refine r_ls [some (.ref m), some (.int (nI (Bool.toNat b))), some (.int (nI c))] rfl ?_
  have fin : ∀ S' : MS, S'.thr < 65536 → S' = S.rgt b c → J v mX11_right (rmOf 1 0 0) (KM v (pR (.int (nI (Bool.toNat (okT0 (S.rgt b c))))) (mH v h m (S.rgt b c)) top) noX 0 0) top 0 0 (mH v h m S') top 16 [some (.ref m), some (.int (nI (Bool.toNat b))), some (.int (nI c))] [] := by
    intro S' h1 h2
    rw [← h2]
    refine r_aload_n (pc := 16) (i := 0) (tX11_right.at 8 rfl) rfl rfl ?_
    refine r_get (pc := 17) (tX11_right.at 9 rfl) gf_X11_55 (mH_0) rfl ?_
    refine r_eq rfl (st2 := [.int (nI S'.thr)]) rfl ?_
    refine r_if_neN (pc := 20) 27 (tX11_right.at 10 rfl) (by decide) (by omega) (fun c2 => ?_) (fun c2 => ?_)
    · refine r_iconst (pc := 27) (w := nI 0) (tX11_right.at 13 rfl) (by decide) ?_
      refine r_zret (pc := 28) (tX11_right.at 14 rfl) rfl (rfl) (Nat.le_of_ble_eq_true rfl) (Nat.le_of_ble_eq_true rfl) ?_
      rw [show okT0 S' = false from decide_eq_false c2]
      exact ⟨rfl, rfl, rfl⟩
    · refine r_iconst (pc := 23) (w := nI 1) (tX11_right.at 11 rfl) (by decide) ?_
      refine r_goto (pc := 24) 28 (tX11_right.at 12 rfl) (by decide) ?_
      refine r_zret (pc := 28) (tX11_right.at 14 rfl) rfl (rfl) (Nat.le_of_ble_eq_true rfl) (Nat.le_of_ble_eq_true rfl) ?_
      rw [show okT0 S' = true from decide_eq_true c2]
      exact ⟨rfl, rfl, rfl⟩
  refine r_aload_n (pc := 0) (i := 0) (tX11_right.at 0 rfl) rfl rfl ?_
  refine r_get (pc := 1) (tX11_right.at 1 rfl) gf_X11_55 (mH_0) rfl ?_
  refine r_eq rfl (st2 := [.int (nI S.thr)]) rfl ?_
  refine r_if_neN (pc := 4) 16 (tX11_right.at 2 rfl) (by decide) (by omega) (fun c1 => ?_) (fun c1 => ?_)
  · exact fin S ht (by rw [MS.rgt, if_neg (by omega)])
  · refine r_iload_n (pc := 7) (i := 1) (tX11_right.at 3 rfl) rfl rfl ?_
    cases b with
    | true =>
      refine r_if_neN (pc := 8) 16 (tX11_right.at 4 rfl) (by decide) (by decide) (fun _ => ?_) (fun z => absurd z (by decide))
      exact fin S ht (by rw [MS.rgt, if_neg (by simp)])
    | false =>
      refine r_if_neN (pc := 8) 16 (tX11_right.at 4 rfl) (by decide) (by decide) (fun z => absurd rfl z) (fun _ => ?_)
      refine r_aload_n (pc := 11) (i := 0) (tX11_right.at 5 rfl) rfl rfl ?_
      refine r_iload_n (pc := 12) (i := 2) (tX11_right.at 6 rfl) rfl rfl ?_
      refine r_put (pc := 13) (tX11_right.at 7 rfl) pf_X11_55 (mH_0) (Nat.le_of_ble_eq_true rfl) (rfl) (rfl) ?_
      refine r_eq (h2 := mH v h m (S.s_thr c)) (mH_p0 (S' := S.s_thr c) rfl) rfl ?_
      exact fin _ hc (by rw [MS.rgt, if_pos ⟨c1, rfl⟩])
/-- the row copied into the next one -/
def chR (r : Nat → Nat) (n u : Nat) : Nat → Nat := fun p => if 1240 * ((n + 1) % 9) ≤ p ∧ p < 1240 * ((n + 1) % 9) + u then r (1240 * n + (p - 1240 * ((n + 1) % 9))) else r p
def MS.chg (S : MS) : MS := (((S.s_rws (chR S.rws S.now 1240)).s_now ((S.now + 1) % 9))).s_und (if S.und < 8 then S.und + 1 else S.und)
theorem chR_s {r : Nat → Nat} {n u : Nat} : upN (chR r n u) (1240 * ((n + 1) % 9) + u) (r (1240 * n + u)) = chR r n (u + 1) := by
  funext p
  unfold upN chR
  by_cases h : p = 1240 * ((n + 1) % 9) + u
  · rw [if_pos h, if_pos (by omega)]
    congr 1
    omega
  · rw [if_neg h]
    by_cases h2 : 1240 * ((n + 1) % 9) ≤ p ∧ p < 1240 * ((n + 1) % 9) + u
    · rw [if_pos h2, if_pos (by omega)]
    · rw [if_neg h2, if_neg (by omega)]
theorem c_mChange (hn : S.now < 9) (hu : S.und ≤ 8) : Cal v mX11_change 2 0 0 [.ref m] (mH v h m S) top (pV (mH v h m S.chg) top) noX := by
  have hto : (S.now + 1) % 9 < 9 := Nat.mod_lt _ (by omega)
  have hne : (S.now + 1) % 9 ≠ S.now := by omega
  refine Cal.ofJ (by decide +kernel) rfl (Nat.le_of_ble_eq_true rfl) fun hz0 => ?_
  refine r_ls [some (.ref m), none, none] rfl ?_
  generalize hX : S.chg = X
  refine r_aload_n (pc := 0) (i := 0) (tX11_change.at 0 rfl) rfl rfl ?_
  refine r_get (pc := 1) (tX11_change.at 1 rfl) gf_X11_58 (mH_0) rfl ?_
  refine r_eq rfl (st2 := [.int (nI S.now)]) rfl ?_
  refine r_iconst (pc := 4) (w := nI 1) (tX11_change.at 2 rfl) (by decide) ?_
  first | refine r_iaddN (pc := 5) (tX11_change.at 3 rfl) ?_ | refine r_iaddZ (pc := 5) (tX11_change.at 3 rfl) ?_ | refine r_iadd (pc := 5) (tX11_change.at 3 rfl) ?_
  refine r_bipush (pc := 6) (w := nI 9) (tX11_change.at 4 rfl) (by decide) ?_
  refine r_irem (pc := 8) (tX11_change.at 5 rfl) (by decide) ?_
  rw [irem_nI (by omega) (by omega) (by omega)]
  refine r_istore_n (pc := 9) (i := 1) (tX11_change.at 6 rfl) rfl (by decide) ?_
  refine r_iconst (pc := 10) (w := nI 0) (tX11_change.at 7 rfl) (by decide) ?_
  refine r_istore_n (pc := 11) (i := 2) (tX11_change.at 8 rfl) rfl (by decide) ?_
  generalize hto2 : (S.now + 1) % 9 = t at *
  have key : ∀ k u, u + k = 1240 → J v mX11_change (rmOf 2 0 0) (KM v (pV (mH v h m X) top) noX 0 0) top 0 0 (mH v h m (S.s_rws (chR S.rws S.now u))) top 12 [some (.ref m), some (.int (nI t)), some (.int (nI u))] [] := by
    intro k
    induction k with
    | zero =>
      intro u hk
      have hk : u = 1240 := by omega
      subst hk
      refine r_iload_n (pc := 12) (i := 2) (tX11_change.at 9 rfl) rfl rfl ?_
      refine r_sipush (pc := 13) (w := nI 1240) (tX11_change.at 10 rfl) (by decide) ?_
      refine r_icmp_geN (pc := 16) 42 (tX11_change.at 11 rfl) (by decide) (by omega) (by omega) (fun _ => ?_) (fun c => by omega)
      refine r_aload_n (pc := 42) (i := 0) (tX11_change.at 25 rfl) rfl rfl ?_
      refine r_iload_n (pc := 43) (i := 1) (tX11_change.at 26 rfl) rfl rfl ?_
      refine r_put (pc := 44) (tX11_change.at 27 rfl) pf_X11_58 (mH_0) (Nat.le_of_ble_eq_true rfl) (rfl) (rfl) ?_
      refine r_eq (h2 := mH v h m ((S.s_rws (chR S.rws S.now 1240)).s_now t)) (mH_p0 (S' := (S.s_rws (chR S.rws S.now 1240)).s_now t) rfl) rfl ?_
      have fin : ∀ y, y = (if S.und < 8 then S.und + 1 else S.und) → J v mX11_change (rmOf 2 0 0) (KM v (pV (mH v h m X) top) noX 0 0) top 0 0 (mH v h m ((S.s_rws (chR S.rws S.now 1240)).s_now t)) top 70 [some (.ref m), some (.int (nI t)), some (.int (nI 1240))] [.int (nI y), .ref m] := by
        intro y hy
        refine r_put (pc := 70) (tX11_change.at 40 rfl) pf_X11_65 (mH_0) (Nat.le_of_ble_eq_true rfl) (rfl) (rfl) ?_
        refine r_eq (h2 := mH v h m (((S.s_rws (chR S.rws S.now 1240)).s_now t).s_und y)) (mH_p0 (S' := ((S.s_rws (chR S.rws S.now 1240)).s_now t).s_und y) rfl) rfl ?_
        refine r_vret (pc := 73) (tX11_change.at 41 rfl) rfl (Nat.le_of_ble_eq_true rfl) (Nat.le_of_ble_eq_true rfl) ?_
        rw [← hX]
        unfold MS.chg
        rw [hto2, hy]
        exact ⟨rfl, rfl, rfl⟩
      refine r_aload_n (pc := 47) (i := 0) (tX11_change.at 28 rfl) rfl rfl ?_
      refine r_aload_n (pc := 48) (i := 0) (tX11_change.at 29 rfl) rfl rfl ?_
      refine r_get (pc := 49) (tX11_change.at 30 rfl) gf_X11_65 (mH_0) rfl ?_
      refine r_eq rfl (st2 := [.int (nI S.und), .ref m]) rfl ?_
      refine r_bipush (pc := 52) (w := nI 8) (tX11_change.at 31 rfl) (by decide) ?_
      refine r_icmp_geN (pc := 54) 66 (tX11_change.at 32 rfl) (by decide) (by omega) (by omega) (fun c => ?_) (fun c => ?_)
      · refine r_aload_n (pc := 66) (i := 0) (tX11_change.at 38 rfl) rfl rfl ?_
        refine r_get (pc := 67) (tX11_change.at 39 rfl) gf_X11_65 (mH_0) rfl ?_
        exact fin S.und (by rw [if_neg (by omega)])
      · refine r_aload_n (pc := 57) (i := 0) (tX11_change.at 33 rfl) rfl rfl ?_
        refine r_get (pc := 58) (tX11_change.at 34 rfl) gf_X11_65 (mH_0) rfl ?_
        refine r_eq rfl (st2 := [.int (nI S.und), .ref m]) rfl ?_
        refine r_iconst (pc := 61) (w := nI 1) (tX11_change.at 35 rfl) (by decide) ?_
        first | refine r_iaddN (pc := 62) (tX11_change.at 36 rfl) ?_ | refine r_iaddZ (pc := 62) (tX11_change.at 36 rfl) ?_ | refine r_iadd (pc := 62) (tX11_change.at 36 rfl) ?_
        refine r_goto (pc := 63) 70 (tX11_change.at 37 rfl) (by decide) ?_
        exact fin _ (by rw [if_pos c])
    | succ k ih =>
      intro u hk
      have e : (S.s_rws (chR S.rws S.now u)).rw u = S.rws (1240 * S.now + u) := by
        show chR S.rws S.now u (1240 * S.now + u) = _
        unfold chR
        rw [hto2, if_neg (by omega)]
      refine r_iload_n (pc := 12) (i := 2) (tX11_change.at 9 rfl) rfl rfl ?_
      refine r_sipush (pc := 13) (w := nI 1240) (tX11_change.at 10 rfl) (by decide) ?_
      refine r_icmp_geN (pc := 16) 42 (tX11_change.at 11 rfl) (by decide) (by omega) (by omega) (fun c => by omega) (fun _ => ?_)
      refine r_aload_n (pc := 19) (i := 0) (tX11_change.at 12 rfl) rfl rfl ?_
      refine r_get (pc := 20) (tX11_change.at 13 rfl) gf_X11_7 (mH_0) rfl ?_
      refine r_sipush (pc := 23) (w := nI 1240) (tX11_change.at 14 rfl) (by decide) ?_
      refine r_iload_n (pc := 26) (i := 1) (tX11_change.at 15 rfl) rfl rfl ?_
      first | refine r_imulN (pc := 27) (tX11_change.at 16 rfl) ?_ | refine r_imulZ (pc := 27) (tX11_change.at 16 rfl) ?_ | refine r_imul (pc := 27) (tX11_change.at 16 rfl) ?_
      refine r_iload_n (pc := 28) (i := 2) (tX11_change.at 17 rfl) rfl rfl ?_
      first | refine r_iaddN (pc := 29) (tX11_change.at 18 rfl) ?_ | refine r_iaddZ (pc := 29) (tX11_change.at 18 rfl) ?_ | refine r_iadd (pc := 29) (tX11_change.at 18 rfl) ?_
      refine r_aload_n (pc := 30) (i := 0) (tX11_change.at 19 rfl) rfl rfl ?_
      refine r_iload_n (pc := 31) (i := 2) (tX11_change.at 20 rfl) rfl rfl ?_
      refine r_callV (M' := mX11_get) (pc := 32) (tX11_change.at 21 rfl) ml_X11_61 rfl mw_X11_get ⟨by decide, by decide⟩ (mH_0) rfl rfl (c_mGet hn (by omega)) rfl rfl (Nat.le_of_ble_eq_true rfl) (Nat.le_of_ble_eq_true rfl) (Nat.le_of_ble_eq_true rfl) ?_
      rintro _ _ _ ⟨rfl, rfl, rfl⟩
      rw [e]
      refine r_iast (pc := 35) (tX11_change.at 22 rfl) (mH_rws) (1240 * t + u) (rfl) (by omega) (Nat.le_of_ble_eq_true rfl) ?_
      rw [upd_iF, mH_srws]
      first | refine r_iincN (pc := 36) (tX11_change.at 23 rfl) rfl (by decide) ?_ | refine r_iinc (pc := 36) (tX11_change.at 23 rfl) rfl rfl (by decide) ?_
      refine r_goto (pc := 39) 12 (tX11_change.at 24 rfl) (by decide) ?_
      refine r_eq (h2 := mH v h m (S.s_rws (chR S.rws S.now (u + 1)))) ?_ rfl (ih (u + 1) (by omega))
      have e2 := chR_s (r := S.rws) (n := S.now) (u := u)
      rw [hto2] at e2
      rw [← e2]
      rfl
  refine r_eq (h2 := mH v h m (S.s_rws (chR S.rws S.now 0))) ?_ rfl (key 1240 0 (by omega))
  have e : chR S.rws S.now 0 = S.rws := by
    funext p
    unfold chR
    rw [if_neg (by omega)]
  rw [e]
  rfl
theorem c_mHas {h : Hp} {B k : Nat} (hB : B < 64) (hk : k < 8) : Cal v mX11_has 1 0 0 [.int (nI B), .int (nI k)] h top (pR (.int (nI (Bool.toNat (B.testBit k)))) h top) noX := by
  refine Cal.ofJ (by decide +kernel) rfl (Nat.le_of_ble_eq_true rfl) fun hz0 => ?_
  refine r_ls [some (.int (nI B)), some (.int (nI k))] rfl ?_
  refine r_iload_n (pc := 0) (i := 0) (tX11_has.at 0 rfl) rfl rfl ?_
  refine r_iload_n (pc := 1) (i := 1) (tX11_has.at 1 rfl) rfl rfl ?_
  refine r_ishr (pc := 2) (tX11_has.at 2 rfl) ?_
  refine r_iconst (pc := 3) (w := nI 1) (tX11_has.at 3 rfl) (by decide) ?_
  refine r_iand (pc := 4) (tX11_has.at 4 rfl) ?_
  rw [bs_sh _ hB k hk]
  have hb : Bool.toNat (B.testBit k) ≤ 1 := Bool.toNat_le _
  refine r_iconst (pc := 5) (w := nI 1) (tX11_has.at 5 rfl) (by decide) ?_
  refine r_icmp_neN (pc := 6) 13 (tX11_has.at 6 rfl) (by decide) (by omega) (by omega) (fun c => ?_) (fun c => ?_)
  · refine r_iconst (pc := 13) (w := nI 0) (tX11_has.at 9 rfl) (by decide) ?_
    refine r_zret (pc := 14) (tX11_has.at 10 rfl) rfl (rfl) (Nat.le_of_ble_eq_true rfl) (Nat.le_of_ble_eq_true rfl) ?_
    rw [show Bool.toNat (B.testBit k) = 0 by omega]
    exact ⟨rfl, rfl, rfl⟩
  · refine r_iconst (pc := 9) (w := nI 1) (tX11_has.at 7 rfl) (by decide) ?_
    refine r_goto (pc := 10) 14 (tX11_has.at 8 rfl) (by decide) ?_
    refine r_zret (pc := 14) (tX11_has.at 10 rfl) rfl (rfl) (Nat.le_of_ble_eq_true rfl) (Nat.le_of_ble_eq_true rfl) ?_
    rw [c]
    exact ⟨rfl, rfl, rfl⟩
def wiI (x b : Int) : Int := if x < -b then -b else if b < x then b else x
theorem c_mWithin {h : Hp} {x b : Int} (hx : inL x) (hb : inL b) (hb2 : inL (-b)) : Cal v mX11_within 1 0 0 [.long (lI x), .long (lI b)] h top (pR (.long (lI (wiI x b))) h top) noX := by
  refine Cal.ofJ (by decide +kernel) rfl (Nat.le_of_ble_eq_true rfl) fun hz0 => ?_
  refine r_ls [some (.long (lI x)), none, some (.long (lI b)), none] rfl ?_
  refine r_lload_n (pc := 0) (i := 0) (tX11_within.at 0 rfl) rfl rfl ?_
  refine r_lload_n (pc := 1) (i := 2) (tX11_within.at 1 rfl) rfl rfl ?_
  first | refine r_lnegL (pc := 2) (tX11_within.at 2 rfl) ?_ | refine r_lneg (pc := 2) (tX11_within.at 2 rfl) ?_
  refine r_lc_ge (pc := 3) 12 (tX11_within.at 3 rfl) (tX11_within.at 4 rfl) (by decide) (hx) (hb2) (fun c => ?_) (fun c => ?_)
  · refine r_lload_n (pc := 12) (i := 0) (tX11_within.at 8 rfl) rfl rfl ?_
    refine r_lload_n (pc := 13) (i := 2) (tX11_within.at 9 rfl) rfl rfl ?_
    refine r_lc_le (pc := 14) 22 (tX11_within.at 10 rfl) (tX11_within.at 11 rfl) (by decide) (hx) (hb) (fun c2 => ?_) (fun c2 => ?_)
    · refine r_lload_n (pc := 22) (i := 0) (tX11_within.at 14 rfl) rfl rfl ?_
      refine r_lret (pc := 23) (tX11_within.at 15 rfl) rfl (Nat.le_of_ble_eq_true rfl) (Nat.le_of_ble_eq_true rfl) ?_
      rw [wiI, if_neg (by omega), if_neg (by omega)]
      exact ⟨rfl, rfl, rfl⟩
    · refine r_lload_n (pc := 18) (i := 2) (tX11_within.at 12 rfl) rfl rfl ?_
      refine r_goto (pc := 19) 23 (tX11_within.at 13 rfl) (by decide) ?_
      refine r_lret (pc := 23) (tX11_within.at 15 rfl) rfl (Nat.le_of_ble_eq_true rfl) (Nat.le_of_ble_eq_true rfl) ?_
      rw [wiI, if_neg (by omega), if_pos c2]
      exact ⟨rfl, rfl, rfl⟩
  · refine r_lload_n (pc := 7) (i := 2) (tX11_within.at 5 rfl) rfl rfl ?_
    first | refine r_lnegL (pc := 8) (tX11_within.at 6 rfl) ?_ | refine r_lneg (pc := 8) (tX11_within.at 6 rfl) ?_
    refine r_goto (pc := 9) 23 (tX11_within.at 7 rfl) (by decide) ?_
    refine r_lret (pc := 23) (tX11_within.at 15 rfl) rfl (Nat.le_of_ble_eq_true rfl) (Nat.le_of_ble_eq_true rfl) ?_
    rw [wiI, if_pos c]
    exact ⟨rfl, rfl, rfl⟩
theorem c_mGcd {h : Hp} {a b : Int} (ha : -9223372036854775807 ≤ a ∧ a ≤ 9223372036854775807) (hb : -9223372036854775807 ≤ b ∧ b ≤ 9223372036854775807) : Cal v mX11_divisor 1 0 0 [.long (lI a), .long (lI b)] h top (pR (.long (lI (Int.gcd a b : Nat))) h top) noX := by
  refine Cal.ofJ (by decide +kernel) rfl (Nat.le_of_ble_eq_true rfl) fun hz0 => ?_
  refine r_ls [some (.long (lI a)), none, some (.long (lI b)), none, none, none, none, none, none, none] rfl ?_
  have key : ∀ (n x y : Nat) (o8 : Option Value), y ≤ n → x < 9223372036854775808 → y < 9223372036854775808 → Nat.gcd x y = Int.gcd a b → J v mX11_divisor (rmOf 1 0 0) (KM v (pR (.long (lI (Int.gcd a b : Nat))) h top) noX 0 0) top 0 0 h top 28 [some (.long (lI a)), none, some (.long (lI b)), none, some (.long (lI x)), none, some (.long (lI y)), none, o8, none] [] := by
    intro n
    induction n with
    | zero =>
      intro x y o8 hy hx hy2 e
      have h0 : y = 0 := by omega
      subst h0
      refine r_lload (pc := 28) (i := 6) (tX11_divisor.at 18 rfl) rfl ?_
      refine r_lconst (pc := 30) (w := lI 0) (tX11_divisor.at 19 rfl) (by decide) ?_
      refine r_lc_eq (pc := 31) 53 (tX11_divisor.at 20 rfl) (tX11_divisor.at 21 rfl) (by decide) (⟨by omega, by omega⟩) (⟨by omega, by omega⟩) (fun _ => ?_) (fun c => by omega)
      refine r_lload (pc := 53) (i := 4) (tX11_divisor.at 31 rfl) rfl ?_
      refine r_lret (pc := 55) (tX11_divisor.at 32 rfl) rfl (Nat.le_of_ble_eq_true rfl) (Nat.le_of_ble_eq_true rfl) ?_
      rw [← e]
      exact ⟨by simp, rfl, rfl⟩
    | succ n ih =>
      intro x y o8 hy hx hy2 e
      by_cases h0 : y = 0
      · exact ih x y o8 (by omega) hx hy2 e
      · have l1 : x % y < y := Nat.mod_lt _ (by omega)
        refine r_lload (pc := 28) (i := 6) (tX11_divisor.at 18 rfl) rfl ?_
        refine r_lconst (pc := 30) (w := lI 0) (tX11_divisor.at 19 rfl) (by decide) ?_
        refine r_lc_eq (pc := 31) 53 (tX11_divisor.at 20 rfl) (tX11_divisor.at 21 rfl) (by decide) (⟨by omega, by omega⟩) (⟨by omega, by omega⟩) (fun c => by omega) (fun _ => ?_)
        refine r_lload (pc := 35) (i := 4) (tX11_divisor.at 22 rfl) rfl ?_
        refine r_lload (pc := 37) (i := 6) (tX11_divisor.at 23 rfl) rfl ?_
        refine r_lremL (pc := 39) (tX11_divisor.at 24 rfl) (inL_nat hx) (inL_nat hy2) (by omega) ?_
        rw [show (x : Int).tmod (y : Int) = ((x % y : Nat) : Int) from (Int.ofNat_tmod x y).symm]
        refine r_lstore (pc := 40) (i := 8) (tX11_divisor.at 25 rfl) (by decide) ?_
        refine r_lload (pc := 42) (i := 6) (tX11_divisor.at 26 rfl) rfl ?_
        refine r_lstore (pc := 44) (i := 4) (tX11_divisor.at 27 rfl) (by decide) ?_
        refine r_lload (pc := 46) (i := 8) (tX11_divisor.at 28 rfl) rfl ?_
        refine r_lstore (pc := 48) (i := 6) (tX11_divisor.at 29 rfl) (by decide) ?_
        refine r_goto (pc := 50) 28 (tX11_divisor.at 30 rfl) (by decide) ?_
        exact ih y (x % y) _ (by omega) hy2 (by omega) (by rw [← e, Nat.gcd_comm x y, Nat.gcd_rec y x, Nat.gcd_comm])
  have k2 : ∀ (x : Nat), x = a.natAbs → J v mX11_divisor (rmOf 1 0 0) (KM v (pR (.long (lI (Int.gcd a b : Nat))) h top) noX 0 0) top 0 0 h top 12 [some (.long (lI a)), none, some (.long (lI b)), none, none, none, none, none, none, none] [.long (lI x)] := by
    intro x hx
    refine r_lstore (pc := 12) (i := 4) (tX11_divisor.at 8 rfl) (by decide) ?_
    refine r_lload_n (pc := 14) (i := 2) (tX11_divisor.at 9 rfl) rfl rfl ?_
    refine r_lconst (pc := 15) (w := lI 0) (tX11_divisor.at 10 rfl) (by decide) ?_
    have k3 : ∀ (y : Nat), y = b.natAbs → J v mX11_divisor (rmOf 1 0 0) (KM v (pR (.long (lI (Int.gcd a b : Nat))) h top) noX 0 0) top 0 0 h top 26 [some (.long (lI a)), none, some (.long (lI b)), none, some (.long (lI x)), none, none, none, none, none] [.long (lI y)] := by
      intro y hy
      refine r_lstore (pc := 26) (i := 6) (tX11_divisor.at 17 rfl) (by decide) ?_
      exact key y x y _ (Nat.le_refl _) (by omega) (by omega) (by rw [hx, hy]; rfl)
    refine r_lc_ge (pc := 16) 25 (tX11_divisor.at 11 rfl) (tX11_divisor.at 12 rfl) (by decide) (⟨by omega, by omega⟩) (⟨by omega, by omega⟩) (fun c => ?_) (fun c => ?_)
    · refine r_lload_n (pc := 25) (i := 2) (tX11_divisor.at 16 rfl) rfl rfl ?_
      refine r_eq rfl (st2 := [.long (lI (b.natAbs : Nat))]) (by rw [show ((b.natAbs : Nat) : Int) = b by omega]) ?_
      exact k3 _ rfl
    · refine r_lload_n (pc := 20) (i := 2) (tX11_divisor.at 13 rfl) rfl rfl ?_
      first | refine r_lnegL (pc := 21) (tX11_divisor.at 14 rfl) ?_ | refine r_lneg (pc := 21) (tX11_divisor.at 14 rfl) ?_
      refine r_goto (pc := 22) 26 (tX11_divisor.at 15 rfl) (by decide) ?_
      refine r_eq rfl (st2 := [.long (lI (b.natAbs : Nat))]) (by rw [show ((b.natAbs : Nat) : Int) = -b by omega]) ?_
      exact k3 _ rfl
  refine r_lload_n (pc := 0) (i := 0) (tX11_divisor.at 0 rfl) rfl rfl ?_
  refine r_lconst (pc := 1) (w := lI 0) (tX11_divisor.at 1 rfl) (by decide) ?_
  refine r_lc_ge (pc := 2) 11 (tX11_divisor.at 2 rfl) (tX11_divisor.at 3 rfl) (by decide) (⟨by omega, by omega⟩) (⟨by omega, by omega⟩) (fun c => ?_) (fun c => ?_)
  · refine r_lload_n (pc := 11) (i := 0) (tX11_divisor.at 7 rfl) rfl rfl ?_
    refine r_eq rfl (st2 := [.long (lI (a.natAbs : Nat))]) (by rw [show ((a.natAbs : Nat) : Int) = a by omega]) ?_
    exact k2 _ rfl
  · refine r_lload_n (pc := 6) (i := 0) (tX11_divisor.at 4 rfl) rfl rfl ?_
    first | refine r_lnegL (pc := 7) (tX11_divisor.at 5 rfl) ?_ | refine r_lneg (pc := 7) (tX11_divisor.at 5 rfl) ?_
    refine r_goto (pc := 8) 12 (tX11_divisor.at 6 rfl) (by decide) ?_
    refine r_eq rfl (st2 := [.long (lI (a.natAbs : Nat))]) (by rw [show ((a.natAbs : Nat) : Int) = -a by omega]) ?_
    exact k2 _ rfl
/-- what fraction divides by -/
def frBy (n d : Int) : Int := if Int.gcd n d = 0 then 1 else if d < 0 then -(Int.gcd n d : Nat) else (Int.gcd n d : Nat)
def MS.fra (S : MS) (n d : Int) : MS := (S.s_abv (n.tdiv (frBy n d))).s_blw (d.tdiv (frBy n d))
theorem c_mFrac {n d : Int} (hn : -9223372036854775807 ≤ n ∧ n ≤ 9223372036854775807) (hd : -9223372036854775807 ≤ d ∧ d ≤ 9223372036854775807) : Cal v mX11_fraction 2 0 0 [.ref m, .long (lI n), .long (lI d)] (mH v h m S) top (pV (mH v h m (S.fra n d)) top) noX := by
  have hg : Int.gcd n d ≤ 9223372036854775807 := by
    by_cases h0 : d = 0
    · subst h0
      rw [Int.gcd_zero_right]
      omega
    · have h1 : Nat.gcd n.natAbs d.natAbs ≤ d.natAbs := Nat.gcd_le_right _ (by omega)
      have h2 : Int.gcd n d = Nat.gcd n.natAbs d.natAbs := rfl
      omega
  refine Cal.ofJ (by decide +kernel) rfl (Nat.le_of_ble_eq_true rfl) fun hz0 => ?_
  refine r_ls [some (.ref m), some (.long (lI n)), none, some (.long (lI d)), none, none, none] rfl ?_
  have fin : ∀ b, b = frBy n d → b ≠ 0 → inL b → J v mX11_fraction (rmOf 2 0 0) (KM v (pV (mH v h m (S.fra n d)) top) noX 0 0) top 0 0 (mH v h m S) top 32 [some (.ref m), some (.long (lI n)), none, some (.long (lI d)), none, some (.long (lI (Int.gcd n d : Nat))), none] [.long (lI b)] := by
    intro b hb h0 hL
    refine r_lstore (pc := 32) (i := 5) (tX11_fraction.at 18 rfl) (by decide) ?_
    refine r_aload_n (pc := 34) (i := 0) (tX11_fraction.at 19 rfl) rfl rfl ?_
    refine r_lload_n (pc := 35) (i := 1) (tX11_fraction.at 20 rfl) rfl rfl ?_
    refine r_lload (pc := 36) (i := 5) (tX11_fraction.at 21 rfl) rfl ?_
    refine r_ldivL (pc := 38) (tX11_fraction.at 22 rfl) (⟨by omega, by omega⟩) (hL) (h0) ?_
    refine r_put (pc := 39) (tX11_fraction.at 23 rfl) pf_X11_228 (mH_0) (Nat.le_of_ble_eq_true rfl) (rfl) (rfl) ?_
    refine r_eq (h2 := mH v h m (S.s_abv (n.tdiv b))) (mH_p0 (S' := S.s_abv (n.tdiv b)) rfl) rfl ?_
    refine r_aload_n (pc := 42) (i := 0) (tX11_fraction.at 24 rfl) rfl rfl ?_
    refine r_lload_n (pc := 43) (i := 3) (tX11_fraction.at 25 rfl) rfl rfl ?_
    refine r_lload (pc := 44) (i := 5) (tX11_fraction.at 26 rfl) rfl ?_
    refine r_ldivL (pc := 46) (tX11_fraction.at 27 rfl) (⟨by omega, by omega⟩) (hL) (h0) ?_
    refine r_put (pc := 47) (tX11_fraction.at 28 rfl) pf_X11_232 (mH_0) (Nat.le_of_ble_eq_true rfl) (rfl) (rfl) ?_
    refine r_eq (h2 := mH v h m ((S.s_abv (n.tdiv b)).s_blw (d.tdiv b))) (mH_p0 (S' := (S.s_abv (n.tdiv b)).s_blw (d.tdiv b)) rfl) rfl ?_
    refine r_vret (pc := 50) (tX11_fraction.at 29 rfl) rfl (Nat.le_of_ble_eq_true rfl) (Nat.le_of_ble_eq_true rfl) ?_
    rw [hb]
    exact ⟨rfl, rfl, rfl⟩
  refine r_lload_n (pc := 0) (i := 1) (tX11_fraction.at 0 rfl) rfl rfl ?_
  refine r_lload_n (pc := 1) (i := 3) (tX11_fraction.at 1 rfl) rfl rfl ?_
  refine r_callS (M' := mX11_divisor) (pc := 2) (tX11_fraction.at 2 rfl) ml_X11_225 rfl mw_X11_divisor ⟨by decide, by decide⟩ (c_mGcd hn hd) rfl rfl (Nat.le_of_ble_eq_true rfl) (Nat.le_of_ble_eq_true rfl) (Nat.le_of_ble_eq_true rfl) ?_
  rintro _ _ _ ⟨rfl, rfl, rfl⟩
  refine r_lstore (pc := 5) (i := 5) (tX11_fraction.at 3 rfl) (by decide) ?_
  refine r_lload (pc := 7) (i := 5) (tX11_fraction.at 4 rfl) rfl ?_
  refine r_lconst (pc := 9) (w := lI 0) (tX11_fraction.at 5 rfl) (by decide) ?_
  refine r_lc_ne (pc := 10) 18 (tX11_fraction.at 6 rfl) (tX11_fraction.at 7 rfl) (by decide) (⟨by omega, by omega⟩) (⟨by omega, by omega⟩) (fun c => ?_) (fun c => ?_)
  · refine r_lload_n (pc := 18) (i := 3) (tX11_fraction.at 10 rfl) rfl rfl ?_
    refine r_lconst (pc := 19) (w := lI 0) (tX11_fraction.at 11 rfl) (by decide) ?_
    refine r_lc_ge (pc := 20) 30 (tX11_fraction.at 12 rfl) (tX11_fraction.at 13 rfl) (by decide) (⟨by omega, by omega⟩) (⟨by omega, by omega⟩) (fun c2 => ?_) (fun c2 => ?_)
    · refine r_lload (pc := 30) (i := 5) (tX11_fraction.at 17 rfl) rfl ?_
      exact fin _ (by rw [frBy, if_neg (by omega), if_neg (by omega)]) (by omega) ⟨by omega, by omega⟩
    · refine r_lload (pc := 24) (i := 5) (tX11_fraction.at 14 rfl) rfl ?_
      first | refine r_lnegL (pc := 26) (tX11_fraction.at 15 rfl) ?_ | refine r_lneg (pc := 26) (tX11_fraction.at 15 rfl) ?_
      refine r_goto (pc := 27) 32 (tX11_fraction.at 16 rfl) (by decide) ?_
      exact fin _ (by rw [frBy, if_neg (by omega), if_pos c2]) (by omega) ⟨by omega, by omega⟩
  · refine r_lconst (pc := 14) (w := lI 1) (tX11_fraction.at 8 rfl) (by decide) ?_
    refine r_goto (pc := 15) 32 (tX11_fraction.at 9 rfl) (by decide) ?_
    exact fin 1 (by rw [frBy, if_pos (by omega)]) (by omega) ⟨by omega, by omega⟩
theorem c_mTold {p : Nat} (hp' : p ≤ 1) : Cal v mX11_told 1 0 0 [.ref m, .int (nI p)] (mH v h m S) top (pR (.long (lI (fp p S.abv S.blw))) (mH v h m S) top) noX := by
  refine Cal.ofJ (by decide +kernel) rfl (Nat.le_of_ble_eq_true rfl) fun hz0 => ?_
  refine r_ls [some (.ref m), some (.int (nI p))] rfl ?_
  refine r_iload_n (pc := 0) (i := 1) (tX11_told.at 0 rfl) rfl rfl ?_
  refine r_if_eqN (pc := 1) 11 (tX11_told.at 1 rfl) (by decide) (by omega) (fun c => ?_) (fun c => ?_)
  · rw [fp, if_pos c]
    refine r_aload_n (pc := 11) (i := 0) (tX11_told.at 5 rfl) rfl rfl ?_
    refine r_get (pc := 12) (tX11_told.at 6 rfl) gf_X11_228 (mH_0) rfl ?_
    refine r_lret (pc := 15) (tX11_told.at 7 rfl) rfl (Nat.le_of_ble_eq_true rfl) (Nat.le_of_ble_eq_true rfl) ?_
    exact ⟨rfl, rfl, rfl⟩
  · rw [fp, if_neg c]
    refine r_aload_n (pc := 4) (i := 0) (tX11_told.at 2 rfl) rfl rfl ?_
    refine r_get (pc := 5) (tX11_told.at 3 rfl) gf_X11_232 (mH_0) rfl ?_
    refine r_goto (pc := 8) 15 (tX11_told.at 4 rfl) (by decide) ?_
    refine r_lret (pc := 15) (tX11_told.at 7 rfl) rfl (Nat.le_of_ble_eq_true rfl) (Nat.le_of_ble_eq_true rfl) ?_
    exact ⟨rfl, rfl, rfl⟩
end

