/-! ===== the reference: lines ===== -/
def MS.rvR (S : MS) : Nat := S.rdR 0 ((S.red 0 : Nat) - 1 : Int)
def MS.rvS (S : MS) : MS := S.rdS 0 ((S.red 0 : Nat) - 1 : Int)
def MS.edB (S : MS) (a b : Nat) : Bool := decide (fstN (fun k => decide (S.red (4 + 3 * k) = min a b ∧ S.red (4 + 3 * k + 1) = max a b)) (S.red 1) < S.red 1)
def MS.el3 (S : MS) : MS := if S.rvS.rvS.err = 0 ∧ (S.rvR = S.rvS.rvR ∨ S.rvS.rvS.edB S.rvR S.rvS.rvR = true) then S.rvS.rvS.fls (-4) S.rvS.rvS.beg else S.rvS.rvS
def MS.el4 (S : MS) : MS := S.el3.rdS 1 9
def MS.elS (S : MS) : MS := if S.el4.err = 0 then S.el4.s_red (upN (upN (upN (upN S.el4.red (4 + 3 * S.el4.red 1) (min S.rvR S.rvS.rvR)) (4 + 3 * S.el4.red 1 + 1) (max S.rvR S.rvS.rvR)) (4 + 3 * S.el4.red 1 + 2) (S.el3.rdR 1 9)) 1 (S.el4.red 1 + 1)) else S.el4
def MS.ab2 (S : MS) : MS := if S.rvS.err = 0 ∧ (S.rvS.red 2).testBit S.rvR = true then S.rvS.fls (-4) S.rvS.beg else S.rvS
def MS.abL (S : MS) : MS := if S.ab2.err = 0 then S.ab2.s_red (upN S.ab2.red 2 (S.ab2.red 2 ||| 2 ^ S.rvR)) else S.ab2
def rlF (f : Nat → Nat) (fr many old lb : Nat) : Nat → Nat := fun k => if (fr ≤ k ∧ k < fr + many) ∧ f k = old then lb else f k
def MS.jnL (S : MS) : MS := if S.rvS.rvS.err = 0 then S.rvS.rvS.s_red (rlF S.rvS.rvS.red 49 (S.rvS.rvS.red 0) (S.rvS.rvS.red (49 + S.rvS.rvR)) (S.rvS.rvS.red (49 + S.rvR))) else S.rvS.rvS
/-- the numbers that stand in what is read -/
def okRd (S : MS) : Prop := S.red 0 ≤ 6 ∧ S.red 1 ≤ 200 ∧ S.red 2 < 64 ∧ S.red 3 ≤ 1000 ∧ ∀ k, k < 1240 → S.red k ≤ 10000
theorem fls_red {S : MS} {c : Int} {a : Nat} : (S.fls c a).red = S.red ∧ (S.fls c a).hco = S.hco ∧ (S.fls c a).nst = S.nst := by
  unfold MS.fls
  split <;> exact ⟨rfl, rfl, rfl⟩
theorem rdS_red {S : MS} {a b : Int} : (S.rdS a b).red = S.red ∧ (S.rdS a b).hco = S.hco ∧ (S.rdS a b).nst = S.nst := by
  unfold MS.rdS
  split
  · split
    · split
      · exact ⟨rfl, rfl, rfl⟩
      · obtain ⟨e1, e2, e3⟩ := fls_red (S := (S.s_beg S.kp).s_nxt (S.kp + S.rdK)) (c := -3) (a := S.kp)
        exact ⟨e1, e2, e3⟩
    · obtain ⟨e1, e2, e3⟩ := fls_red (S := S.see) (c := -2) (a := S.kp)
      exact ⟨e1, e2, e3⟩
  · exact ⟨rfl, rfl, rfl⟩
theorem wan_red {S : MS} {c : Nat} : (S.wan c).red = S.red ∧ (S.wan c).hco = S.hco ∧ (S.wan c).nst = S.nst := by
  unfold MS.wan
  split
  · split
    · exact ⟨rfl, rfl, rfl⟩
    · obtain ⟨e1, e2, e3⟩ := fls_red (S := S.see) (c := -2) (a := S.kp)
      exact ⟨e1, e2, e3⟩
  · exact ⟨rfl, rfl, rfl⟩
theorem tkS_red {S : MS} {i : Nat} : (S.tkS i).red = S.red ∧ (S.tkS i).hco = S.hco ∧ (S.tkS i).nst = S.nst ∧ (S.tkS i).err = S.err := by
  unfold MS.tkS
  split
  · split <;> exact ⟨rfl, rfl, rfl, rfl⟩
  · exact ⟨rfl, rfl, rfl, rfl⟩
theorem rvR_le {S : MS} (h : S.red 0 ≤ 6) : S.rvR ≤ 5 := by
  unfold MS.rvR MS.rdR
  split
  · next q => omega
  · omega
theorem rd19 {S : MS} : S.rdR 1 9 ≤ 9 := by
  unfold MS.rdR
  split
  · next q => omega
  · omega
theorem beg_le {S : MS} {a b : Int} (ok : okP S) (hb : S.beg ≤ 600) : (S.rdS a b).beg ≤ 600 := by
  have h1 := ok.kp
  have h2 := ok.1
  unfold MS.rdS
  split
  · split
    · split
      · show S.kp ≤ 600
        omega
      · unfold MS.fls
        split
        · show S.kp ≤ 600
          omega
        · show S.kp ≤ 600
          omega
    · unfold MS.fls
      split <;> exact hb
  · exact hb
section
variable {v : Ev} {h : Hp} {top m : Nat} {S : MS}
theorem c_mCodes {k w : Nat} (he : inI S.err) (h3 : 56 + 2 * S.red 3 + 1 < 1240) : Cal v mX11_codes 1 0 0 [.ref m, .int (nI k), .int (nI w)] (mH v h m S) top (pV (mH v h m (S.cod k w)) top) noX := by
  refine Cal.ofJ (by decide +kernel) rfl (Nat.le_of_ble_eq_true rfl) fun hz0 => ?_
  refine r_ls [some (.ref m), some (.int (nI k)), some (.int (nI w)), none] rfl ?_
  generalize hPo : pV (mH v h m (S.cod k w)) top = Po
  refine r_aload_n (pc := 0) (i := 0) (tX11_codes.at 0 rfl) rfl rfl ?_
  refine r_get (pc := 1) (tX11_codes.at 1 rfl) gf_X11_71 (mH_0) rfl ?_
  refine r_eq rfl (st2 := [.int (zI S.err)]) rfl ?_
  refine r_err0 (pc := 4) 8 (tX11_codes.at 2 rfl) (by decide) he (fun c0 => ?_) (fun c0 => ?_)
  · refine r_bipush (pc := 8) (w := nI 56) (tX11_codes.at 4 rfl) (by decide) ?_
    refine r_iconst (pc := 10) (w := nI 2) (tX11_codes.at 5 rfl) (by decide) ?_
    refine r_aload_n (pc := 11) (i := 0) (tX11_codes.at 6 rfl) rfl rfl ?_
    refine r_get (pc := 12) (tX11_codes.at 7 rfl) gf_X11_13 (mH_0) rfl ?_
    refine r_iconst (pc := 15) (w := nI 3) (tX11_codes.at 8 rfl) (by decide) ?_
    refine r_iald (pc := 16) (tX11_codes.at 9 rfl) (mH_red) (3) (rfl) (by omega) (Nat.le_of_ble_eq_true rfl) ?_
    refine r_eq rfl (st2 := [.int (nI (S.red 3)), .int (nI 2), .int (nI 56)]) rfl ?_
    first | refine r_imulN (pc := 17) (tX11_codes.at 10 rfl) ?_ | refine r_imulZ (pc := 17) (tX11_codes.at 10 rfl) ?_ | refine r_imul (pc := 17) (tX11_codes.at 10 rfl) ?_
    first | refine r_iaddN (pc := 18) (tX11_codes.at 11 rfl) ?_ | refine r_iaddZ (pc := 18) (tX11_codes.at 11 rfl) ?_ | refine r_iadd (pc := 18) (tX11_codes.at 11 rfl) ?_
    refine r_istore_n (pc := 19) (i := 3) (tX11_codes.at 12 rfl) rfl (by decide) ?_
    refine r_aload_n (pc := 20) (i := 0) (tX11_codes.at 13 rfl) rfl rfl ?_
    refine r_get (pc := 21) (tX11_codes.at 14 rfl) gf_X11_13 (mH_0) rfl ?_
    refine r_iload_n (pc := 24) (i := 3) (tX11_codes.at 15 rfl) rfl rfl ?_
    refine r_iload_n (pc := 25) (i := 1) (tX11_codes.at 16 rfl) rfl rfl ?_
    refine r_iast (pc := 26) (tX11_codes.at 17 rfl) (mH_red) (56 + 2 * S.red 3) (rfl) (by omega) (Nat.le_of_ble_eq_true rfl) ?_
    rw [upd_iF, mH_sred]
    refine r_aload_n (pc := 27) (i := 0) (tX11_codes.at 18 rfl) rfl rfl ?_
    refine r_get (pc := 28) (tX11_codes.at 19 rfl) gf_X11_13 (mH_0) rfl ?_
    refine r_iload_n (pc := 31) (i := 3) (tX11_codes.at 20 rfl) rfl rfl ?_
    refine r_iconst (pc := 32) (w := nI 1) (tX11_codes.at 21 rfl) (by decide) ?_
    first | refine r_iaddN (pc := 33) (tX11_codes.at 22 rfl) ?_ | refine r_iaddZ (pc := 33) (tX11_codes.at 22 rfl) ?_ | refine r_iadd (pc := 33) (tX11_codes.at 22 rfl) ?_
    refine r_iload_n (pc := 34) (i := 2) (tX11_codes.at 23 rfl) rfl rfl ?_
    refine r_iast (pc := 35) (tX11_codes.at 24 rfl) (mH_red) (56 + 2 * S.red 3 + 1) (rfl) (by omega) (Nat.le_of_ble_eq_true rfl) ?_
    rw [upd_iF, mH_sred]
    refine r_aload_n (pc := 36) (i := 0) (tX11_codes.at 25 rfl) rfl rfl ?_
    refine r_get (pc := 37) (tX11_codes.at 26 rfl) gf_X11_13 (mH_0) rfl ?_
    refine r_iconst (pc := 40) (w := nI 3) (tX11_codes.at 27 rfl) (by decide) ?_
    first | refine r_dup2_11 (pc := 41) (tX11_codes.at 28 rfl) rfl rfl ?_ | refine r_dup2_2 (pc := 41) (tX11_codes.at 28 rfl) rfl ?_
    refine r_iald (pc := 42) (tX11_codes.at 29 rfl) (mH_red) (3) (rfl) (by omega) (Nat.le_of_ble_eq_true rfl) ?_
    refine r_eq (h2 := mH v h m (S.s_red (upN (upN S.red (56 + 2 * S.red 3) k) (56 + 2 * S.red 3 + 1) w))) (st2 := [.int (nI (S.red 3)), .int (nI 3), .ref (m + 2)]) rfl ?_ ?_
    · show [Value.int (nI (upN (upN S.red (56 + 2 * S.red 3) k) (56 + 2 * S.red 3 + 1) w 3)), _, _] = _
      rw [upN_ne _ _ (by omega), upN_ne _ _ (by omega)]
    · refine r_iconst (pc := 43) (w := nI 1) (tX11_codes.at 30 rfl) (by decide) ?_
      first | refine r_iaddN (pc := 44) (tX11_codes.at 31 rfl) ?_ | refine r_iaddZ (pc := 44) (tX11_codes.at 31 rfl) ?_ | refine r_iadd (pc := 44) (tX11_codes.at 31 rfl) ?_
      refine r_iast (pc := 45) (tX11_codes.at 32 rfl) (mH_red) (3) (rfl) (by omega) (Nat.le_of_ble_eq_true rfl) ?_
      rw [upd_iF, mH_sred]
      refine r_vret (pc := 46) (tX11_codes.at 33 rfl) rfl (Nat.le_of_ble_eq_true rfl) (Nat.le_of_ble_eq_true rfl) ?_
      subst hPo
      rw [MS.cod, if_pos c0]
      exact ⟨rfl, rfl, rfl⟩
  · refine r_vret (pc := 7) (tX11_codes.at 3 rfl) rfl (Nat.le_of_ble_eq_true rfl) (Nat.le_of_ble_eq_true rfl) ?_
    subst hPo
    rw [MS.cod, if_neg c0]
    exact ⟨rfl, rfl, rfl⟩
theorem c_mRdV (ok : okP S) (he : inI S.err) (h0 : S.red 0 ≤ 6) : Cal v mX11_readsVertex 4 0 0 [.ref m] (mH v h m S) top (pR (.int (nI S.rvR)) (mH v h m S.rvS) top) noX := by
  refine Cal.ofJ (by decide +kernel) rfl (Nat.le_of_ble_eq_true rfl) fun hz0 => ?_
  refine r_ls [some (.ref m)] rfl ?_
  refine r_aload_n (pc := 0) (i := 0) (tX11_readsVertex.at 0 rfl) rfl rfl ?_
  refine r_iconst (pc := 1) (w := zI 0) (tX11_readsVertex.at 1 rfl) (by decide) ?_
  refine r_aload_n (pc := 2) (i := 0) (tX11_readsVertex.at 2 rfl) rfl rfl ?_
  refine r_get (pc := 3) (tX11_readsVertex.at 3 rfl) gf_X11_13 (mH_0) rfl ?_
  refine r_iconst (pc := 6) (w := nI 0) (tX11_readsVertex.at 4 rfl) (by decide) ?_
  refine r_iald (pc := 7) (tX11_readsVertex.at 5 rfl) (mH_red) (0) (rfl) (by omega) (Nat.le_of_ble_eq_true rfl) ?_
  refine r_eq rfl (st2 := [.int (zI (S.red 0 : Nat)), .int (zI 0), .ref m]) (by rw [zI_nat]; rfl) ?_
  refine r_iconst (pc := 8) (w := zI 1) (tX11_readsVertex.at 6 rfl) (by decide) ?_
  refine r_isubZ (pc := 9) (tX11_readsVertex.at 7 rfl) ?_
  refine r_callV (M' := mX11_reads) (pc := 10) (tX11_readsVertex.at 8 rfl) ml_X11_137 rfl mw_X11_reads ⟨by decide, by decide⟩ (mH_0) rfl rfl (c_mReads ok he ⟨by omega, by omega⟩ ⟨by omega, by omega⟩) rfl rfl (Nat.le_of_ble_eq_true rfl) (Nat.le_of_ble_eq_true rfl) (Nat.le_of_ble_eq_true rfl) ?_
  rintro _ _ _ ⟨rfl, rfl, rfl⟩
  refine r_iret (pc := 13) (tX11_readsVertex.at 9 rfl) rfl (Nat.le_of_ble_eq_true rfl) (Nat.le_of_ble_eq_true rfl) ?_
  exact ⟨rfl, rfl, rfl⟩
theorem c_mEdIn {a b many : Nat} {f : Nat → Nat} (hf : ∀ k, k < 1240 → f k ≤ 10000) (ha : a ≤ 5) (hb : b ≤ 5) (hm : many ≤ 200) (hh : S.red = f) : Cal v mX11_edgeIn 1 0 0 [.ref (m + 2), .int (nI 4), .int (nI many), .int (nI a), .int (nI b)] (mH v h m S) top (pR (.int (fdR (fstN (fun k => decide (f (4 + 3 * k) = min a b ∧ f (4 + 3 * k + 1) = max a b)) many) many)) (mH v h m S) top) noX := by
  subst hh
  refine Cal.ofJ (by decide +kernel) rfl (Nat.le_of_ble_eq_true rfl) fun hz0 => ?_
  refine r_ls [some (.ref (m + 2)), some (.int (nI 4)), some (.int (nI many)), some (.int (nI a)), some (.int (nI b)), none] rfl ?_
  refine r_iconst (pc := 0) (w := nI 0) (tX11_edgeIn.at 0 rfl) (by decide) ?_
  refine r_istore (pc := 1) (i := 5) (tX11_edgeIn.at 1 rfl) (by decide) ?_
  have key : ∀ q k, k + q = many → (∀ j, j < k → ¬ (S.red (4 + 3 * j) = min a b ∧ S.red (4 + 3 * j + 1) = max a b)) → J v mX11_edgeIn (rmOf 1 0 0) (KM v (pR (.int (fdR (fstN (fun k => decide (S.red (4 + 3 * k) = min a b ∧ S.red (4 + 3 * k + 1) = max a b)) many) many)) (mH v h m S) top) noX 0 0) top 0 0 (mH v h m S) top 3 [some (.ref (m + 2)), some (.int (nI 4)), some (.int (nI many)), some (.int (nI a)), some (.int (nI b)), some (.int (nI k))] [] := by
    intro q
    induction q with
    | zero =>
      intro k hk hj
      have hk : k = many := by omega
      subst hk
      refine r_iload (pc := 3) (i := 5) (tX11_edgeIn.at 2 rfl) rfl ?_
      refine r_iload_n (pc := 5) (i := 2) (tX11_edgeIn.at 3 rfl) rfl rfl ?_
      refine r_icmp_geN (pc := 6) 54 (tX11_edgeIn.at 4 rfl) (by decide) (by omega) (by omega) (fun _ => ?_) (fun c => by omega)
      refine r_iconst (pc := 54) (w := zI (-1)) (tX11_edgeIn.at 33 rfl) (by decide) ?_
      refine r_iret (pc := 55) (tX11_edgeIn.at 34 rfl) rfl (Nat.le_of_ble_eq_true rfl) (Nat.le_of_ble_eq_true rfl) ?_
      rw [fstN_is (Nat.le_refl _) (fun j hj2 => decide_eq_false (hj j hj2)) (Or.inl rfl), fdR, if_neg (by omega)]
      exact ⟨rfl, rfl, rfl⟩
    | succ q ih =>
      intro k hk hj
      have h1 := hf (4 + 3 * k) (by omega)
      have h2 := hf (4 + 3 * k + 1) (by omega)
      have nx : ¬ (S.red (4 + 3 * k) = min a b ∧ S.red (4 + 3 * k + 1) = max a b) → _ := fun q2 => ih (k + 1) (by omega) (fun j hj2 => by
        by_cases h3 : j = k
        · rw [h3]; exact q2
        · exact hj j (by omega))
      refine r_iload (pc := 3) (i := 5) (tX11_edgeIn.at 2 rfl) rfl ?_
      refine r_iload_n (pc := 5) (i := 2) (tX11_edgeIn.at 3 rfl) rfl rfl ?_
      refine r_icmp_geN (pc := 6) 54 (tX11_edgeIn.at 4 rfl) (by decide) (by omega) (by omega) (fun c => by omega) (fun _ => ?_)
      refine r_aload_n (pc := 9) (i := 0) (tX11_edgeIn.at 5 rfl) rfl rfl ?_
      refine r_iload_n (pc := 10) (i := 1) (tX11_edgeIn.at 6 rfl) rfl rfl ?_
      refine r_iconst (pc := 11) (w := nI 3) (tX11_edgeIn.at 7 rfl) (by decide) ?_
      refine r_iload (pc := 12) (i := 5) (tX11_edgeIn.at 8 rfl) rfl ?_
      first | refine r_imulN (pc := 14) (tX11_edgeIn.at 9 rfl) ?_ | refine r_imulZ (pc := 14) (tX11_edgeIn.at 9 rfl) ?_ | refine r_imul (pc := 14) (tX11_edgeIn.at 9 rfl) ?_
      first | refine r_iaddN (pc := 15) (tX11_edgeIn.at 10 rfl) ?_ | refine r_iaddZ (pc := 15) (tX11_edgeIn.at 10 rfl) ?_ | refine r_iadd (pc := 15) (tX11_edgeIn.at 10 rfl) ?_
      refine r_iald (pc := 16) (tX11_edgeIn.at 11 rfl) (mH_red) (4 + 3 * k) (rfl) (by omega) (Nat.le_of_ble_eq_true rfl) ?_
      refine r_eq rfl (st2 := [.int (nI (S.red (4 + 3 * k)))]) rfl ?_
      refine r_iload_n (pc := 17) (i := 3) (tX11_edgeIn.at 12 rfl) rfl rfl ?_
      refine r_iload (pc := 18) (i := 4) (tX11_edgeIn.at 13 rfl) rfl ?_
      first | refine r_mminN (pc := 20) (tX11_edgeIn.at 14 rfl) ml_X11_108 mw_min_s mw_math mw_min_c (Nat.le_of_ble_eq_true rfl) (Nat.le_of_ble_eq_true rfl) (Nat.le_of_ble_eq_true rfl) (Nat.le_of_ble_eq_true rfl) (by omega) (by omega) ?_ | refine r_mminZ (pc := 20) (tX11_edgeIn.at 14 rfl) ml_X11_108 mw_min_s mw_math mw_min_c (Nat.le_of_ble_eq_true rfl) (Nat.le_of_ble_eq_true rfl) (Nat.le_of_ble_eq_true rfl) (Nat.le_of_ble_eq_true rfl) ⟨by omega, by omega⟩ ⟨by omega, by omega⟩ ?_ | refine r_mmin (pc := 20) (tX11_edgeIn.at 14 rfl) ml_X11_108 mw_min_s mw_math mw_min_c (Nat.le_of_ble_eq_true rfl) (Nat.le_of_ble_eq_true rfl) (Nat.le_of_ble_eq_true rfl) (Nat.le_of_ble_eq_true rfl) ?_
      refine r_icmp_neN (pc := 23) 48 (tX11_edgeIn.at 15 rfl) (by decide) (by omega) (by omega) (fun c1 => ?_) (fun c1 => ?_)
      · first | refine r_iincN (pc := 48) (tX11_edgeIn.at 31 rfl) rfl (by decide) ?_ | refine r_iinc (pc := 48) (tX11_edgeIn.at 31 rfl) rfl rfl (by decide) ?_
        refine r_goto (pc := 51) 3 (tX11_edgeIn.at 32 rfl) (by decide) ?_
        exact nx (fun z => c1 z.1)
      · refine r_aload_n (pc := 26) (i := 0) (tX11_edgeIn.at 16 rfl) rfl rfl ?_
        refine r_iload_n (pc := 27) (i := 1) (tX11_edgeIn.at 17 rfl) rfl rfl ?_
        refine r_iconst (pc := 28) (w := nI 3) (tX11_edgeIn.at 18 rfl) (by decide) ?_
        refine r_iload (pc := 29) (i := 5) (tX11_edgeIn.at 19 rfl) rfl ?_
        first | refine r_imulN (pc := 31) (tX11_edgeIn.at 20 rfl) ?_ | refine r_imulZ (pc := 31) (tX11_edgeIn.at 20 rfl) ?_ | refine r_imul (pc := 31) (tX11_edgeIn.at 20 rfl) ?_
        first | refine r_iaddN (pc := 32) (tX11_edgeIn.at 21 rfl) ?_ | refine r_iaddZ (pc := 32) (tX11_edgeIn.at 21 rfl) ?_ | refine r_iadd (pc := 32) (tX11_edgeIn.at 21 rfl) ?_
        refine r_iconst (pc := 33) (w := nI 1) (tX11_edgeIn.at 22 rfl) (by decide) ?_
        first | refine r_iaddN (pc := 34) (tX11_edgeIn.at 23 rfl) ?_ | refine r_iaddZ (pc := 34) (tX11_edgeIn.at 23 rfl) ?_ | refine r_iadd (pc := 34) (tX11_edgeIn.at 23 rfl) ?_
        refine r_iald (pc := 35) (tX11_edgeIn.at 24 rfl) (mH_red) (4 + 3 * k + 1) (rfl) (by omega) (Nat.le_of_ble_eq_true rfl) ?_
        refine r_eq rfl (st2 := [.int (nI (S.red (4 + 3 * k + 1)))]) rfl ?_
        refine r_iload_n (pc := 36) (i := 3) (tX11_edgeIn.at 25 rfl) rfl rfl ?_
        refine r_iload (pc := 37) (i := 4) (tX11_edgeIn.at 26 rfl) rfl ?_
        first | refine r_mmaxN (pc := 39) (tX11_edgeIn.at 27 rfl) ml_X11_150 mw_max_s mw_math mw_max_c (Nat.le_of_ble_eq_true rfl) (Nat.le_of_ble_eq_true rfl) (Nat.le_of_ble_eq_true rfl) (Nat.le_of_ble_eq_true rfl) (by omega) (by omega) ?_ | refine r_mmaxZ (pc := 39) (tX11_edgeIn.at 27 rfl) ml_X11_150 mw_max_s mw_math mw_max_c (Nat.le_of_ble_eq_true rfl) (Nat.le_of_ble_eq_true rfl) (Nat.le_of_ble_eq_true rfl) (Nat.le_of_ble_eq_true rfl) ⟨by omega, by omega⟩ ⟨by omega, by omega⟩ ?_ | refine r_mmax (pc := 39) (tX11_edgeIn.at 27 rfl) ml_X11_150 mw_max_s mw_math mw_max_c (Nat.le_of_ble_eq_true rfl) (Nat.le_of_ble_eq_true rfl) (Nat.le_of_ble_eq_true rfl) (Nat.le_of_ble_eq_true rfl) ?_
        refine r_icmp_neN (pc := 42) 48 (tX11_edgeIn.at 28 rfl) (by decide) (by omega) (by omega) (fun c2 => ?_) (fun c2 => ?_)
        · first | refine r_iincN (pc := 48) (tX11_edgeIn.at 31 rfl) rfl (by decide) ?_ | refine r_iinc (pc := 48) (tX11_edgeIn.at 31 rfl) rfl rfl (by decide) ?_
          refine r_goto (pc := 51) 3 (tX11_edgeIn.at 32 rfl) (by decide) ?_
          exact nx (fun z => c2 z.2)
        · refine r_iload (pc := 45) (i := 5) (tX11_edgeIn.at 29 rfl) rfl ?_
          refine r_iret (pc := 47) (tX11_edgeIn.at 30 rfl) rfl (Nat.le_of_ble_eq_true rfl) (Nat.le_of_ble_eq_true rfl) ?_
          rw [fstN_is (show k ≤ many by omega) (fun j hj2 => decide_eq_false (hj j hj2)) (Or.inr (decide_eq_true ⟨c1, c2⟩)), fdR, if_pos (by omega)]
          exact ⟨rfl, rfl, rfl⟩
  exact key many 0 (by omega) (fun j hj => by omega)
theorem c_mEdgeL (ok : okP S) (he : inI S.err) (hr : okRd S) : Cal v mX11_edgeLine 5 0 0 [.ref m] (mH v h m S) top (pV (mH v h m S.elS) top) noX := by
  obtain ⟨r0, r1, r2, r3, r4⟩ := hr
  have a1 := rdS_adv (S := S) (a := 0) (b := ((S.red 0 : Nat) - 1 : Int)) ok
  have e1 := rdS_red (S := S) (a := 0) (b := ((S.red 0 : Nat) - 1 : Int))
  have ok1 : okP S.rvS := a1.ok ok
  have he1 : inI S.rvS.err := a1.2.2.2 he
  have er1 : S.rvS.red = S.red := e1.1
  have h01 : S.rvS.red 0 ≤ 6 := by rw [er1]; exact r0
  have a2 := rdS_adv (S := S.rvS) (a := 0) (b := ((S.rvS.red 0 : Nat) - 1 : Int)) ok1
  have e2 := rdS_red (S := S.rvS) (a := 0) (b := ((S.rvS.red 0 : Nat) - 1 : Int))
  have ok2 : okP S.rvS.rvS := a2.ok ok1
  have he2 : inI S.rvS.rvS.err := a2.2.2.2 he1
  have er2 : S.rvS.rvS.red = S.red := e2.1.trans er1
  have ha := rvR_le r0
  have hb' := rvR_le h01
  refine Cal.ofJ (by decide +kernel) rfl (Nat.le_of_ble_eq_true rfl) fun hz0 => ?_
  refine r_ls [some (.ref m), none, none, none, none] rfl ?_
  generalize hPo : pV (mH v h m S.elS) top = Po
  refine r_aload_n (pc := 0) (i := 0) (tX11_edgeLine.at 0 rfl) rfl rfl ?_
  refine r_callV (M' := mX11_readsVertex) (pc := 1) (tX11_edgeLine.at 1 rfl) ml_X11_153 rfl mw_X11_readsVertex ⟨by decide, by decide⟩ (mH_0) rfl rfl (c_mRdV ok he r0) rfl rfl (Nat.le_of_ble_eq_true rfl) (Nat.le_of_ble_eq_true rfl) (Nat.le_of_ble_eq_true rfl) ?_
  rintro _ _ _ ⟨rfl, rfl, rfl⟩
  refine r_istore_n (pc := 4) (i := 1) (tX11_edgeLine.at 2 rfl) rfl (by decide) ?_
  refine r_aload_n (pc := 5) (i := 0) (tX11_edgeLine.at 3 rfl) rfl rfl ?_
  refine r_callV (M' := mX11_readsVertex) (pc := 6) (tX11_edgeLine.at 4 rfl) ml_X11_153 rfl mw_X11_readsVertex ⟨by decide, by decide⟩ (mH_0) rfl rfl (c_mRdV ok1 he1 h01) rfl rfl (Nat.le_of_ble_eq_true rfl) (Nat.le_of_ble_eq_true rfl) (Nat.le_of_ble_eq_true rfl) ?_
  rintro _ _ _ ⟨rfl, rfl, rfl⟩
  refine r_istore_n (pc := 9) (i := 2) (tX11_edgeLine.at 5 rfl) rfl (by decide) ?_
  -- the weight
  have part2 : ∀ S3, S3 = S.el3 → okP S3 → inI S3.err → S3.red = S.red → J v mX11_edgeLine (rmOf 5 0 0) (KM v Po noX 0 0) top 0 0 (mH v h m S3) top 52 [some (.ref m), some (.int (nI S.rvR)), some (.int (nI S.rvS.rvR)), none, none] [] := by
    intro S3 hS3 ok3 he3 er3
    have a4 := rdS_adv (S := S3) (a := 1) (b := 9) ok3
    have er4 : (S3.rdS 1 9).red = S.red := (rdS_red (S := S3) (a := 1) (b := 9)).1.trans er3
    have he4 := a4.2.2.2 he3
    have e4 : S3.rdS 1 9 = S.el4 := by rw [MS.el4, ← hS3]
    have e5 : S3.rdR 1 9 = S.el3.rdR 1 9 := by rw [← hS3]
    have w9 := rd19 (S := S3)
    refine r_aload_n (pc := 52) (i := 0) (tX11_edgeLine.at 29 rfl) rfl rfl ?_
    refine r_iconst (pc := 53) (w := zI 1) (tX11_edgeLine.at 30 rfl) (by decide) ?_
    refine r_bipush (pc := 54) (w := zI 9) (tX11_edgeLine.at 31 rfl) (by decide) ?_
    refine r_callV (M' := mX11_reads) (pc := 56) (tX11_edgeLine.at 32 rfl) ml_X11_137 rfl mw_X11_reads ⟨by decide, by decide⟩ (mH_0) rfl rfl (c_mReads ok3 he3 ⟨by omega, by omega⟩ ⟨by omega, by omega⟩) rfl rfl (Nat.le_of_ble_eq_true rfl) (Nat.le_of_ble_eq_true rfl) (Nat.le_of_ble_eq_true rfl) ?_
    rintro _ _ _ ⟨rfl, rfl, rfl⟩
    refine r_istore_n (pc := 59) (i := 3) (tX11_edgeLine.at 33 rfl) rfl (by decide) ?_
    generalize hS4 : S3.rdS 1 9 = S4 at *
    generalize hw : S3.rdR 1 9 = w at *
    refine r_aload_n (pc := 60) (i := 0) (tX11_edgeLine.at 34 rfl) rfl rfl ?_
    refine r_get (pc := 61) (tX11_edgeLine.at 35 rfl) gf_X11_71 (mH_0) rfl ?_
    refine r_eq rfl (st2 := [.int (zI S4.err)]) rfl ?_
    refine r_err0 (pc := 64) 68 (tX11_edgeLine.at 36 rfl) (by decide) he4 (fun c0 => ?_) (fun c0 => ?_)
    · have h1 : S4.red 1 ≤ 200 := by rw [er4]; exact r1
      refine r_iconst (pc := 68) (w := nI 4) (tX11_edgeLine.at 38 rfl) (by decide) ?_
      refine r_iconst (pc := 69) (w := nI 3) (tX11_edgeLine.at 39 rfl) (by decide) ?_
      refine r_aload_n (pc := 70) (i := 0) (tX11_edgeLine.at 40 rfl) rfl rfl ?_
      refine r_get (pc := 71) (tX11_edgeLine.at 41 rfl) gf_X11_13 (mH_0) rfl ?_
      refine r_iconst (pc := 74) (w := nI 1) (tX11_edgeLine.at 42 rfl) (by decide) ?_
      refine r_iald (pc := 75) (tX11_edgeLine.at 43 rfl) (mH_red) (1) (rfl) (by omega) (Nat.le_of_ble_eq_true rfl) ?_
      refine r_eq rfl (st2 := [.int (nI (S4.red 1)), .int (nI 3), .int (nI 4)]) rfl ?_
      first | refine r_imulN (pc := 76) (tX11_edgeLine.at 44 rfl) ?_ | refine r_imulZ (pc := 76) (tX11_edgeLine.at 44 rfl) ?_ | refine r_imul (pc := 76) (tX11_edgeLine.at 44 rfl) ?_
      first | refine r_iaddN (pc := 77) (tX11_edgeLine.at 45 rfl) ?_ | refine r_iaddZ (pc := 77) (tX11_edgeLine.at 45 rfl) ?_ | refine r_iadd (pc := 77) (tX11_edgeLine.at 45 rfl) ?_
      refine r_istore (pc := 78) (i := 4) (tX11_edgeLine.at 46 rfl) (by decide) ?_
      refine r_aload_n (pc := 80) (i := 0) (tX11_edgeLine.at 47 rfl) rfl rfl ?_
      refine r_get (pc := 81) (tX11_edgeLine.at 48 rfl) gf_X11_13 (mH_0) rfl ?_
      refine r_iload (pc := 84) (i := 4) (tX11_edgeLine.at 49 rfl) rfl ?_
      refine r_iload_n (pc := 86) (i := 1) (tX11_edgeLine.at 50 rfl) rfl rfl ?_
      refine r_iload_n (pc := 87) (i := 2) (tX11_edgeLine.at 51 rfl) rfl rfl ?_
      first | refine r_mminN (pc := 88) (tX11_edgeLine.at 52 rfl) ml_X11_108 mw_min_s mw_math mw_min_c (Nat.le_of_ble_eq_true rfl) (Nat.le_of_ble_eq_true rfl) (Nat.le_of_ble_eq_true rfl) (Nat.le_of_ble_eq_true rfl) (by omega) (by omega) ?_ | refine r_mminZ (pc := 88) (tX11_edgeLine.at 52 rfl) ml_X11_108 mw_min_s mw_math mw_min_c (Nat.le_of_ble_eq_true rfl) (Nat.le_of_ble_eq_true rfl) (Nat.le_of_ble_eq_true rfl) (Nat.le_of_ble_eq_true rfl) ⟨by omega, by omega⟩ ⟨by omega, by omega⟩ ?_ | refine r_mmin (pc := 88) (tX11_edgeLine.at 52 rfl) ml_X11_108 mw_min_s mw_math mw_min_c (Nat.le_of_ble_eq_true rfl) (Nat.le_of_ble_eq_true rfl) (Nat.le_of_ble_eq_true rfl) (Nat.le_of_ble_eq_true rfl) ?_
      refine r_iast (pc := 91) (tX11_edgeLine.at 53 rfl) (mH_red) (4 + 3 * S4.red 1) (rfl) (by omega) (Nat.le_of_ble_eq_true rfl) ?_
      rw [upd_iF, mH_sred]
      refine r_aload_n (pc := 92) (i := 0) (tX11_edgeLine.at 54 rfl) rfl rfl ?_
      refine r_get (pc := 93) (tX11_edgeLine.at 55 rfl) gf_X11_13 (mH_0) rfl ?_
      refine r_iload (pc := 96) (i := 4) (tX11_edgeLine.at 56 rfl) rfl ?_
      refine r_iconst (pc := 98) (w := nI 1) (tX11_edgeLine.at 57 rfl) (by decide) ?_
      first | refine r_iaddN (pc := 99) (tX11_edgeLine.at 58 rfl) ?_ | refine r_iaddZ (pc := 99) (tX11_edgeLine.at 58 rfl) ?_ | refine r_iadd (pc := 99) (tX11_edgeLine.at 58 rfl) ?_
      refine r_iload_n (pc := 100) (i := 1) (tX11_edgeLine.at 59 rfl) rfl rfl ?_
      refine r_iload_n (pc := 101) (i := 2) (tX11_edgeLine.at 60 rfl) rfl rfl ?_
      first | refine r_mmaxN (pc := 102) (tX11_edgeLine.at 61 rfl) ml_X11_150 mw_max_s mw_math mw_max_c (Nat.le_of_ble_eq_true rfl) (Nat.le_of_ble_eq_true rfl) (Nat.le_of_ble_eq_true rfl) (Nat.le_of_ble_eq_true rfl) (by omega) (by omega) ?_ | refine r_mmaxZ (pc := 102) (tX11_edgeLine.at 61 rfl) ml_X11_150 mw_max_s mw_math mw_max_c (Nat.le_of_ble_eq_true rfl) (Nat.le_of_ble_eq_true rfl) (Nat.le_of_ble_eq_true rfl) (Nat.le_of_ble_eq_true rfl) ⟨by omega, by omega⟩ ⟨by omega, by omega⟩ ?_ | refine r_mmax (pc := 102) (tX11_edgeLine.at 61 rfl) ml_X11_150 mw_max_s mw_math mw_max_c (Nat.le_of_ble_eq_true rfl) (Nat.le_of_ble_eq_true rfl) (Nat.le_of_ble_eq_true rfl) (Nat.le_of_ble_eq_true rfl) ?_
      refine r_iast (pc := 105) (tX11_edgeLine.at 62 rfl) (mH_red) (4 + 3 * S4.red 1 + 1) (rfl) (by omega) (Nat.le_of_ble_eq_true rfl) ?_
      rw [upd_iF, mH_sred]
      refine r_aload_n (pc := 106) (i := 0) (tX11_edgeLine.at 63 rfl) rfl rfl ?_
      refine r_get (pc := 107) (tX11_edgeLine.at 64 rfl) gf_X11_13 (mH_0) rfl ?_
      refine r_iload (pc := 110) (i := 4) (tX11_edgeLine.at 65 rfl) rfl ?_
      refine r_iconst (pc := 112) (w := nI 2) (tX11_edgeLine.at 66 rfl) (by decide) ?_
      first | refine r_iaddN (pc := 113) (tX11_edgeLine.at 67 rfl) ?_ | refine r_iaddZ (pc := 113) (tX11_edgeLine.at 67 rfl) ?_ | refine r_iadd (pc := 113) (tX11_edgeLine.at 67 rfl) ?_
      refine r_iload_n (pc := 114) (i := 3) (tX11_edgeLine.at 68 rfl) rfl rfl ?_
      refine r_iast (pc := 115) (tX11_edgeLine.at 69 rfl) (mH_red) (4 + 3 * S4.red 1 + 2) (rfl) (by omega) (Nat.le_of_ble_eq_true rfl) ?_
      rw [upd_iF, mH_sred]
      refine r_aload_n (pc := 116) (i := 0) (tX11_edgeLine.at 70 rfl) rfl rfl ?_
      refine r_get (pc := 117) (tX11_edgeLine.at 71 rfl) gf_X11_13 (mH_0) rfl ?_
      refine r_iconst (pc := 120) (w := nI 1) (tX11_edgeLine.at 72 rfl) (by decide) ?_
      first | refine r_dup2_11 (pc := 121) (tX11_edgeLine.at 73 rfl) rfl rfl ?_ | refine r_dup2_2 (pc := 121) (tX11_edgeLine.at 73 rfl) rfl ?_
      refine r_iald (pc := 122) (tX11_edgeLine.at 74 rfl) (mH_red) (1) (rfl) (by omega) (Nat.le_of_ble_eq_true rfl) ?_
      refine r_eq (h2 := mH v h m (S4.s_red (upN (upN (upN S4.red (4 + 3 * S4.red 1) (min S.rvR S.rvS.rvR)) (4 + 3 * S4.red 1 + 1) (max S.rvR S.rvS.rvR)) (4 + 3 * S4.red 1 + 2) w))) (st2 := [.int (nI (S4.red 1)), .int (nI 1), .ref (m + 2)]) rfl ?_ ?_
      · have e1 : upN (upN (upN S4.red (4 + 3 * S4.red 1) (min S.rvR S.rvS.rvR)) (4 + 3 * S4.red 1 + 1) (max S.rvR S.rvS.rvR)) (4 + 3 * S4.red 1 + 2) w 1 = S4.red 1 := by rw [upN_ne _ _ (by omega), upN_ne _ _ (by omega), upN_ne _ _ (by omega)]
        exact congrArg (fun z => [Value.int (nI z), .int (nI 1), .ref (m + 2)]) e1
      · refine r_iconst (pc := 123) (w := nI 1) (tX11_edgeLine.at 75 rfl) (by decide) ?_
        first | refine r_iaddN (pc := 124) (tX11_edgeLine.at 76 rfl) ?_ | refine r_iaddZ (pc := 124) (tX11_edgeLine.at 76 rfl) ?_ | refine r_iadd (pc := 124) (tX11_edgeLine.at 76 rfl) ?_
        refine r_iast (pc := 125) (tX11_edgeLine.at 77 rfl) (mH_red) (1) (rfl) (by omega) (Nat.le_of_ble_eq_true rfl) ?_
        rw [upd_iF, mH_sred]
        refine r_vret (pc := 126) (tX11_edgeLine.at 78 rfl) rfl (Nat.le_of_ble_eq_true rfl) (Nat.le_of_ble_eq_true rfl) ?_
        subst hPo
        refine ⟨rfl, ?_, rfl⟩
        rw [MS.elS, ← e4, if_pos c0, ← e5]
        rfl
    · refine r_vret (pc := 67) (tX11_edgeLine.at 37 rfl) rfl (Nat.le_of_ble_eq_true rfl) (Nat.le_of_ble_eq_true rfl) ?_
      subst hPo
      rw [MS.elS, ← e4, if_neg c0]
      exact ⟨rfl, rfl, rfl⟩
  have bad : S.rvS.rvS.err = 0 ∧ (S.rvR = S.rvS.rvR ∨ S.rvS.rvS.edB S.rvR S.rvS.rvR = true) → J v mX11_edgeLine (rmOf 5 0 0) (KM v Po noX 0 0) top 0 0 (mH v h m S.rvS.rvS) top 42 [some (.ref m), some (.int (nI S.rvR)), some (.int (nI S.rvS.rvR)), none, none] [] := by
    intro hc
    have af := fls_adv (S := S.rvS.rvS) (c := -4) (a := S.rvS.rvS.beg) ok2 ⟨by omega, by omega⟩
    refine r_aload_n (pc := 42) (i := 0) (tX11_edgeLine.at 24 rfl) rfl rfl ?_
    refine r_bipush (pc := 43) (w := zI (-4)) (tX11_edgeLine.at 25 rfl) (by decide) ?_
    refine r_aload_n (pc := 45) (i := 0) (tX11_edgeLine.at 26 rfl) rfl rfl ?_
    refine r_get (pc := 46) (tX11_edgeLine.at 27 rfl) gf_X11_104 (mH_0) rfl ?_
    refine r_eq rfl (st2 := [.int (nI S.rvS.rvS.beg), .int (zI (-4)), .ref m]) rfl ?_
    refine r_callV (M' := mX11_fails) (pc := 49) (tX11_edgeLine.at 28 rfl) ml_X11_96 rfl mw_X11_fails ⟨by decide, by decide⟩ (mH_0) rfl rfl (c_mFails he2) rfl rfl (Nat.le_of_ble_eq_true rfl) (Nat.le_of_ble_eq_true rfl) (Nat.le_of_ble_eq_true rfl) ?_
    rintro _ _ _ ⟨rfl, rfl, rfl⟩
    exact part2 _ (by rw [MS.el3, if_pos hc]) (af.ok ok2) (af.2.2.2 he2) (fls_red.1.trans er2)
  have good : ¬ (S.rvS.rvS.err = 0 ∧ (S.rvR = S.rvS.rvR ∨ S.rvS.rvS.edB S.rvR S.rvS.rvR = true)) → J v mX11_edgeLine (rmOf 5 0 0) (KM v Po noX 0 0) top 0 0 (mH v h m S.rvS.rvS) top 52 [some (.ref m), some (.int (nI S.rvR)), some (.int (nI S.rvS.rvR)), none, none] [] := fun hc => part2 _ (by rw [MS.el3, if_neg hc]) ok2 he2 er2
  refine r_aload_n (pc := 10) (i := 0) (tX11_edgeLine.at 6 rfl) rfl rfl ?_
  refine r_get (pc := 11) (tX11_edgeLine.at 7 rfl) gf_X11_71 (mH_0) rfl ?_
  refine r_eq rfl (st2 := [.int (zI S.rvS.rvS.err)]) rfl ?_
  refine r_err1 (pc := 14) 52 (tX11_edgeLine.at 8 rfl) (by decide) he2 (fun c0 => good (fun z => c0 z.1)) (fun c0 => ?_)
  refine r_iload_n (pc := 17) (i := 1) (tX11_edgeLine.at 9 rfl) rfl rfl ?_
  refine r_iload_n (pc := 18) (i := 2) (tX11_edgeLine.at 10 rfl) rfl rfl ?_
  refine r_icmp_eqN (pc := 19) 42 (tX11_edgeLine.at 11 rfl) (by decide) (by omega) (by omega) (fun c1 => ?_) (fun c1 => ?_)
  · exact bad ⟨c0, Or.inl c1⟩
  · refine r_aload_n (pc := 22) (i := 0) (tX11_edgeLine.at 12 rfl) rfl rfl ?_
    refine r_get (pc := 23) (tX11_edgeLine.at 13 rfl) gf_X11_13 (mH_0) rfl ?_
    refine r_iconst (pc := 26) (w := nI 4) (tX11_edgeLine.at 14 rfl) (by decide) ?_
    refine r_aload_n (pc := 27) (i := 0) (tX11_edgeLine.at 15 rfl) rfl rfl ?_
    refine r_get (pc := 28) (tX11_edgeLine.at 16 rfl) gf_X11_13 (mH_0) rfl ?_
    refine r_iconst (pc := 31) (w := nI 1) (tX11_edgeLine.at 17 rfl) (by decide) ?_
    refine r_iald (pc := 32) (tX11_edgeLine.at 18 rfl) (mH_red) (1) (rfl) (by omega) (Nat.le_of_ble_eq_true rfl) ?_
    refine r_iload_n (pc := 33) (i := 1) (tX11_edgeLine.at 19 rfl) rfl rfl ?_
    refine r_iload_n (pc := 34) (i := 2) (tX11_edgeLine.at 20 rfl) rfl rfl ?_
    refine r_eq rfl (st2 := [.int (nI S.rvS.rvR), .int (nI S.rvR), .int (nI (S.rvS.rvS.red 1)), .int (nI 4), .ref (m + 2)]) rfl ?_
    refine r_callS (M' := mX11_edgeIn) (pc := 35) (tX11_edgeLine.at 21 rfl) ml_X11_156 rfl mw_X11_edgeIn ⟨by decide, by decide⟩ (c_mEdIn (f := S.rvS.rvS.red) (by rw [er2]; exact r4) ha hb' (by rw [er2]; exact r1) rfl) rfl rfl (Nat.le_of_ble_eq_true rfl) (Nat.le_of_ble_eq_true rfl) (Nat.le_of_ble_eq_true rfl) ?_
    rintro _ _ _ ⟨rfl, rfl, rfl⟩
    refine r_iconst (pc := 38) (w := zI (-1)) (tX11_edgeLine.at 22 rfl) (by decide) ?_
    by_cases c2 : S.rvS.rvS.edB S.rvR S.rvS.rvR = true
    · have c3 := of_decide_eq_true c2
      rw [fdR, if_pos c3]
      have h1 : S.rvS.rvS.red 1 ≤ 200 := by rw [er2]; exact r1
      refine r_eq rfl (st2 := [.int (zI (-1)), .int (zI ((fstN (fun k => decide (S.rvS.rvS.red (4 + 3 * k) = min S.rvR S.rvS.rvR ∧ S.rvS.rvS.red (4 + 3 * k + 1) = max S.rvR S.rvS.rvR)) (S.rvS.rvS.red 1) : Nat) : Int))]) (by rw [zI_nat]; rfl) ?_
      refine r_icmp_eqZ (pc := 39) 52 (tX11_edgeLine.at 23 rfl) (by decide) ⟨by omega, by omega⟩ ⟨by omega, by omega⟩ (fun z => by omega) (fun _ => ?_)
      exact bad ⟨c0, Or.inr c2⟩
    · have c3 : ¬ fstN (fun k => decide (S.rvS.rvS.red (4 + 3 * k) = min S.rvR S.rvS.rvR ∧ S.rvS.rvS.red (4 + 3 * k + 1) = max S.rvR S.rvS.rvR)) (S.rvS.rvS.red 1) < S.rvS.rvS.red 1 := fun z => c2 (decide_eq_true z)
      rw [fdR, if_neg c3]
      refine r_icmp_eqZ (pc := 39) 52 (tX11_edgeLine.at 23 rfl) (by decide) ⟨by omega, by omega⟩ ⟨by omega, by omega⟩ (fun _ => ?_) (fun z => absurd rfl z)
      exact good (fun z => z.2.elim c1 c2)
theorem c_mAbsL (ok : okP S) (he : inI S.err) (hr : okRd S) : Cal v mX11_absorbLine 5 0 0 [.ref m] (mH v h m S) top (pV (mH v h m S.abL) top) noX := by
  obtain ⟨r0, r1, r2, r3, r4⟩ := hr
  have a1 := rdS_adv (S := S) (a := 0) (b := ((S.red 0 : Nat) - 1 : Int)) ok
  have ok1 : okP S.rvS := a1.ok ok
  have he1 : inI S.rvS.err := a1.2.2.2 he
  have er1 : S.rvS.red = S.red := (rdS_red (S := S) (a := 0) (b := ((S.red 0 : Nat) - 1 : Int))).1
  have ha := rvR_le r0
  have h2 : S.rvS.red 2 < 64 := by rw [er1]; exact r2
  refine Cal.ofJ (by decide +kernel) rfl (Nat.le_of_ble_eq_true rfl) fun hz0 => ?_
  refine r_ls [some (.ref m), none] rfl ?_
  generalize hPo : pV (mH v h m S.abL) top = Po
  refine r_aload_n (pc := 0) (i := 0) (tX11_absorbLine.at 0 rfl) rfl rfl ?_
  refine r_callV (M' := mX11_readsVertex) (pc := 1) (tX11_absorbLine.at 1 rfl) ml_X11_153 rfl mw_X11_readsVertex ⟨by decide, by decide⟩ (mH_0) rfl rfl (c_mRdV ok he r0) rfl rfl (Nat.le_of_ble_eq_true rfl) (Nat.le_of_ble_eq_true rfl) (Nat.le_of_ble_eq_true rfl) ?_
  rintro _ _ _ ⟨rfl, rfl, rfl⟩
  refine r_istore_n (pc := 4) (i := 1) (tX11_absorbLine.at 2 rfl) rfl (by decide) ?_
  have part2 : ∀ S3, S3 = S.ab2 → inI S3.err → S3.red = S.red → J v mX11_absorbLine (rmOf 5 0 0) (KM v Po noX 0 0) top 0 0 (mH v h m S3) top 36 [some (.ref m), some (.int (nI S.rvR))] [] := by
    intro S3 hS3 he3 er3
    have h3 : S3.red 2 < 64 := by rw [er3]; exact r2
    refine r_aload_n (pc := 36) (i := 0) (tX11_absorbLine.at 21 rfl) rfl rfl ?_
    refine r_get (pc := 37) (tX11_absorbLine.at 22 rfl) gf_X11_71 (mH_0) rfl ?_
    refine r_eq rfl (st2 := [.int (zI S3.err)]) rfl ?_
    refine r_err1 (pc := 40) 55 (tX11_absorbLine.at 23 rfl) (by decide) he3 (fun c0 => ?_) (fun c0 => ?_)
    · refine r_vret (pc := 55) (tX11_absorbLine.at 34 rfl) rfl (Nat.le_of_ble_eq_true rfl) (Nat.le_of_ble_eq_true rfl) ?_
      subst hPo
      rw [MS.abL, ← hS3, if_neg c0]
      exact ⟨rfl, rfl, rfl⟩
    · refine r_aload_n (pc := 43) (i := 0) (tX11_absorbLine.at 24 rfl) rfl rfl ?_
      refine r_get (pc := 44) (tX11_absorbLine.at 25 rfl) gf_X11_13 (mH_0) rfl ?_
      refine r_iconst (pc := 47) (w := nI 2) (tX11_absorbLine.at 26 rfl) (by decide) ?_
      first | refine r_dup2_11 (pc := 48) (tX11_absorbLine.at 27 rfl) rfl rfl ?_ | refine r_dup2_2 (pc := 48) (tX11_absorbLine.at 27 rfl) rfl ?_
      refine r_iald (pc := 49) (tX11_absorbLine.at 28 rfl) (mH_red) (2) (rfl) (by omega) (Nat.le_of_ble_eq_true rfl) ?_
      refine r_eq rfl (st2 := [.int (nI (S3.red 2)), .int (nI 2), .ref (m + 2)]) rfl ?_
      refine r_iconst (pc := 50) (w := nI 1) (tX11_absorbLine.at 29 rfl) (by decide) ?_
      refine r_iload_n (pc := 51) (i := 1) (tX11_absorbLine.at 30 rfl) rfl rfl ?_
      refine r_ishl (pc := 52) (tX11_absorbLine.at 31 rfl) ?_
      rw [bs_one S.rvR (by omega)]
      refine r_ior (pc := 53) (tX11_absorbLine.at 32 rfl) ?_
      rw [bs_or _ h3 _ (p2_64 (by omega))]
      refine r_iast (pc := 54) (tX11_absorbLine.at 33 rfl) (mH_red) (2) (rfl) (by omega) (Nat.le_of_ble_eq_true rfl) ?_
      rw [upd_iF, mH_sred]
      refine r_vret (pc := 55) (tX11_absorbLine.at 34 rfl) rfl (Nat.le_of_ble_eq_true rfl) (Nat.le_of_ble_eq_true rfl) ?_
      subst hPo
      rw [MS.abL, ← hS3, if_pos c0]
      exact ⟨rfl, rfl, rfl⟩
  refine r_aload_n (pc := 5) (i := 0) (tX11_absorbLine.at 3 rfl) rfl rfl ?_
  refine r_get (pc := 6) (tX11_absorbLine.at 4 rfl) gf_X11_71 (mH_0) rfl ?_
  refine r_eq rfl (st2 := [.int (zI S.rvS.err)]) rfl ?_
  refine r_err1 (pc := 9) 36 (tX11_absorbLine.at 5 rfl) (by decide) he1 (fun c0 => part2 _ (by rw [MS.ab2, if_neg (fun z => c0 z.1)]) he1 er1) (fun c0 => ?_)
  refine r_aload_n (pc := 12) (i := 0) (tX11_absorbLine.at 6 rfl) rfl rfl ?_
  refine r_get (pc := 13) (tX11_absorbLine.at 7 rfl) gf_X11_13 (mH_0) rfl ?_
  refine r_iconst (pc := 16) (w := nI 2) (tX11_absorbLine.at 8 rfl) (by decide) ?_
  refine r_iald (pc := 17) (tX11_absorbLine.at 9 rfl) (mH_red) (2) (rfl) (by omega) (Nat.le_of_ble_eq_true rfl) ?_
  refine r_eq rfl (st2 := [.int (nI (S.rvS.red 2))]) rfl ?_
  refine r_iload_n (pc := 18) (i := 1) (tX11_absorbLine.at 10 rfl) rfl rfl ?_
  refine r_ishr (pc := 19) (tX11_absorbLine.at 11 rfl) ?_
  refine r_iconst (pc := 20) (w := nI 1) (tX11_absorbLine.at 12 rfl) (by decide) ?_
  refine r_iand (pc := 21) (tX11_absorbLine.at 13 rfl) ?_
  rw [bs_sh _ h2 _ (by omega)]
  have hb2 : Bool.toNat ((S.rvS.red 2).testBit S.rvR) ≤ 1 := Bool.toNat_le _
  refine r_iconst (pc := 22) (w := nI 1) (tX11_absorbLine.at 14 rfl) (by decide) ?_
  refine r_icmp_neN (pc := 23) 36 (tX11_absorbLine.at 15 rfl) (by decide) (by omega) (by omega) (fun c1 => ?_) (fun c1 => ?_)
  · refine part2 _ ?_ he1 er1
    rw [MS.ab2, if_neg]
    rintro ⟨-, z⟩
    rw [z] at c1
    exact c1 rfl
  · have af := fls_adv (S := S.rvS) (c := -4) (a := S.rvS.beg) ok1 ⟨by omega, by omega⟩
    refine r_aload_n (pc := 26) (i := 0) (tX11_absorbLine.at 16 rfl) rfl rfl ?_
    refine r_bipush (pc := 27) (w := zI (-4)) (tX11_absorbLine.at 17 rfl) (by decide) ?_
    refine r_aload_n (pc := 29) (i := 0) (tX11_absorbLine.at 18 rfl) rfl rfl ?_
    refine r_get (pc := 30) (tX11_absorbLine.at 19 rfl) gf_X11_104 (mH_0) rfl ?_
    refine r_eq rfl (st2 := [.int (nI S.rvS.beg), .int (zI (-4)), .ref m]) rfl ?_
    refine r_callV (M' := mX11_fails) (pc := 33) (tX11_absorbLine.at 20 rfl) ml_X11_96 rfl mw_X11_fails ⟨by decide, by decide⟩ (mH_0) rfl rfl (c_mFails he1) rfl rfl (Nat.le_of_ble_eq_true rfl) (Nat.le_of_ble_eq_true rfl) (Nat.le_of_ble_eq_true rfl) ?_
    rintro _ _ _ ⟨rfl, rfl, rfl⟩
    exact part2 _ (by rw [MS.ab2, if_pos ⟨c0, tbT (by omega)⟩]) (af.2.2.2 he1) (fls_red.1.trans er1)
theorem c_mRelab {fr many old lb : Nat} {f : Nat → Nat} (hf : ∀ k, k < 1240 → f k ≤ 10000) (ho : old ≤ 10000) (hm : fr + many < 1240) (hh : S.red = f) : Cal v mX11_relabels 1 0 0 [.ref (m + 2), .int (nI fr), .int (nI many), .int (nI old), .int (nI lb)] (mH v h m S) top (pV (mH v h m (S.s_red (rlF f fr many old lb))) top) noX := by
  subst hh
  refine Cal.ofJ (by decide +kernel) rfl (Nat.le_of_ble_eq_true rfl) fun hz0 => ?_
  refine r_ls [some (.ref (m + 2)), some (.int (nI fr)), some (.int (nI many)), some (.int (nI old)), some (.int (nI lb)), none] rfl ?_
  generalize hPo : pV (mH v h m (S.s_red (rlF S.red fr many old lb))) top = Po
  refine r_iconst (pc := 0) (w := nI 0) (tX11_relabels.at 0 rfl) (by decide) ?_
  refine r_istore (pc := 1) (i := 5) (tX11_relabels.at 1 rfl) (by decide) ?_
  have key : ∀ q u F, u + q = many → F = rlF S.red fr u old lb → J v mX11_relabels (rmOf 1 0 0) (KM v Po noX 0 0) top 0 0 (mH v h m (S.s_red F)) top 3 [some (.ref (m + 2)), some (.int (nI fr)), some (.int (nI many)), some (.int (nI old)), some (.int (nI lb)), some (.int (nI u))] [] := by
    intro q
    induction q with
    | zero =>
      intro u F hu hF
      have hu : u = many := by omega
      subst hu
      refine r_iload (pc := 3) (i := 5) (tX11_relabels.at 2 rfl) rfl ?_
      refine r_iload_n (pc := 5) (i := 2) (tX11_relabels.at 3 rfl) rfl rfl ?_
      refine r_icmp_geN (pc := 6) 33 (tX11_relabels.at 4 rfl) (by decide) (by omega) (by omega) (fun _ => ?_) (fun c => by omega)
      refine r_vret (pc := 33) (tX11_relabels.at 20 rfl) rfl (Nat.le_of_ble_eq_true rfl) (Nat.le_of_ble_eq_true rfl) ?_
      subst hPo
      rw [hF]
      exact ⟨rfl, rfl, rfl⟩
    | succ q ih =>
      intro u F hu hF
      have e : F (fr + u) = S.red (fr + u) := by
        rw [hF]
        unfold rlF
        rw [if_neg (by omega)]
      have h1 := hf (fr + u) (by omega)
      refine r_iload (pc := 3) (i := 5) (tX11_relabels.at 2 rfl) rfl ?_
      refine r_iload_n (pc := 5) (i := 2) (tX11_relabels.at 3 rfl) rfl rfl ?_
      refine r_icmp_geN (pc := 6) 33 (tX11_relabels.at 4 rfl) (by decide) (by omega) (by omega) (fun c => by omega) (fun _ => ?_)
      refine r_aload_n (pc := 9) (i := 0) (tX11_relabels.at 5 rfl) rfl rfl ?_
      refine r_iload_n (pc := 10) (i := 1) (tX11_relabels.at 6 rfl) rfl rfl ?_
      refine r_iload (pc := 11) (i := 5) (tX11_relabels.at 7 rfl) rfl ?_
      first | refine r_iaddN (pc := 13) (tX11_relabels.at 8 rfl) ?_ | refine r_iaddZ (pc := 13) (tX11_relabels.at 8 rfl) ?_ | refine r_iadd (pc := 13) (tX11_relabels.at 8 rfl) ?_
      refine r_iald (pc := 14) (tX11_relabels.at 9 rfl) (mH_red) (fr + u) (rfl) (by omega) (Nat.le_of_ble_eq_true rfl) ?_
      refine r_eq rfl (st2 := [.int (nI (S.red (fr + u)))]) (by rw [← e]; rfl) ?_
      refine r_iload_n (pc := 15) (i := 3) (tX11_relabels.at 10 rfl) rfl rfl ?_
      refine r_icmp_neN (pc := 16) 27 (tX11_relabels.at 11 rfl) (by decide) (by omega) (by omega) (fun c => ?_) (fun c => ?_)
      · first | refine r_iincN (pc := 27) (tX11_relabels.at 18 rfl) rfl (by decide) ?_ | refine r_iinc (pc := 27) (tX11_relabels.at 18 rfl) rfl rfl (by decide) ?_
        refine r_goto (pc := 30) 3 (tX11_relabels.at 19 rfl) (by decide) ?_
        refine ih (u + 1) F (by omega) ?_
        rw [hF]
        funext k
        unfold rlF
        by_cases q1 : k = fr + u
        · rw [q1, if_neg (by omega), if_neg (fun z => c z.2)]
        · by_cases q2 : (fr ≤ k ∧ k < fr + u) ∧ S.red k = old
          · rw [if_pos q2, if_pos ⟨by omega, q2.2⟩]
          · rw [if_neg q2, if_neg (fun z => q2 ⟨by omega, z.2⟩)]
      · refine r_aload_n (pc := 19) (i := 0) (tX11_relabels.at 12 rfl) rfl rfl ?_
        refine r_iload_n (pc := 20) (i := 1) (tX11_relabels.at 13 rfl) rfl rfl ?_
        refine r_iload (pc := 21) (i := 5) (tX11_relabels.at 14 rfl) rfl ?_
        first | refine r_iaddN (pc := 23) (tX11_relabels.at 15 rfl) ?_ | refine r_iaddZ (pc := 23) (tX11_relabels.at 15 rfl) ?_ | refine r_iadd (pc := 23) (tX11_relabels.at 15 rfl) ?_
        refine r_iload (pc := 24) (i := 4) (tX11_relabels.at 16 rfl) rfl ?_
        refine r_iast (pc := 26) (tX11_relabels.at 17 rfl) (mH_red) (fr + u) (rfl) (by omega) (Nat.le_of_ble_eq_true rfl) ?_
        rw [upd_iF, mH_sred]
        refine r_eq (h2 := mH v h m (S.s_red (upN F (fr + u) lb))) rfl rfl ?_
        first | refine r_iincN (pc := 27) (tX11_relabels.at 18 rfl) rfl (by decide) ?_ | refine r_iinc (pc := 27) (tX11_relabels.at 18 rfl) rfl rfl (by decide) ?_
        refine r_goto (pc := 30) 3 (tX11_relabels.at 19 rfl) (by decide) ?_
        refine ih (u + 1) _ (by omega) ?_
        rw [hF]
        funext k
        unfold upN
        by_cases q1 : k = fr + u
        · rw [if_pos q1, rlF, if_pos ⟨by omega, by rw [q1]; exact c⟩]
        · rw [if_neg q1]
          unfold rlF
          by_cases q2 : (fr ≤ k ∧ k < fr + u) ∧ S.red k = old
          · rw [if_pos q2, if_pos ⟨by omega, q2.2⟩]
          · rw [if_neg q2, if_neg (fun z => q2 ⟨by omega, z.2⟩)]
  refine r_eq (h2 := mH v h m (S.s_red S.red)) rfl rfl ?_
  refine key many 0 S.red (by omega) ?_
  funext k
  unfold rlF
  rw [if_neg (by omega)]
theorem c_mJoinL (ok : okP S) (he : inI S.err) (hr : okRd S) : Cal v mX11_joinLine 5 0 0 [.ref m] (mH v h m S) top (pV (mH v h m S.jnL) top) noX := by
  obtain ⟨r0, r1, r2, r3, r4⟩ := hr
  have a1 := rdS_adv (S := S) (a := 0) (b := ((S.red 0 : Nat) - 1 : Int)) ok
  have e1 := rdS_red (S := S) (a := 0) (b := ((S.red 0 : Nat) - 1 : Int))
  have ok1 : okP S.rvS := a1.ok ok
  have he1 : inI S.rvS.err := a1.2.2.2 he
  have er1 : S.rvS.red = S.red := e1.1
  have h01 : S.rvS.red 0 ≤ 6 := by rw [er1]; exact r0
  have a2 := rdS_adv (S := S.rvS) (a := 0) (b := ((S.rvS.red 0 : Nat) - 1 : Int)) ok1
  have e2 := rdS_red (S := S.rvS) (a := 0) (b := ((S.rvS.red 0 : Nat) - 1 : Int))
  have he2 : inI S.rvS.rvS.err := a2.2.2.2 he1
  have er2 : S.rvS.rvS.red = S.red := e2.1.trans er1
  have ha := rvR_le r0
  have hb' := rvR_le h01
  refine Cal.ofJ (by decide +kernel) rfl (Nat.le_of_ble_eq_true rfl) fun hz0 => ?_
  refine r_ls [some (.ref m), none, none] rfl ?_
  generalize hPo : pV (mH v h m S.jnL) top = Po
  refine r_aload_n (pc := 0) (i := 0) (tX11_joinLine.at 0 rfl) rfl rfl ?_
  refine r_callV (M' := mX11_readsVertex) (pc := 1) (tX11_joinLine.at 1 rfl) ml_X11_153 rfl mw_X11_readsVertex ⟨by decide, by decide⟩ (mH_0) rfl rfl (c_mRdV ok he r0) rfl rfl (Nat.le_of_ble_eq_true rfl) (Nat.le_of_ble_eq_true rfl) (Nat.le_of_ble_eq_true rfl) ?_
  rintro _ _ _ ⟨rfl, rfl, rfl⟩
  refine r_istore_n (pc := 4) (i := 1) (tX11_joinLine.at 2 rfl) rfl (by decide) ?_
  refine r_aload_n (pc := 5) (i := 0) (tX11_joinLine.at 3 rfl) rfl rfl ?_
  refine r_callV (M' := mX11_readsVertex) (pc := 6) (tX11_joinLine.at 4 rfl) ml_X11_153 rfl mw_X11_readsVertex ⟨by decide, by decide⟩ (mH_0) rfl rfl (c_mRdV ok1 he1 h01) rfl rfl (Nat.le_of_ble_eq_true rfl) (Nat.le_of_ble_eq_true rfl) (Nat.le_of_ble_eq_true rfl) ?_
  rintro _ _ _ ⟨rfl, rfl, rfl⟩
  refine r_istore_n (pc := 9) (i := 2) (tX11_joinLine.at 5 rfl) rfl (by decide) ?_
  refine r_aload_n (pc := 10) (i := 0) (tX11_joinLine.at 6 rfl) rfl rfl ?_
  refine r_get (pc := 11) (tX11_joinLine.at 7 rfl) gf_X11_71 (mH_0) rfl ?_
  refine r_eq rfl (st2 := [.int (zI S.rvS.rvS.err)]) rfl ?_
  refine r_err1 (pc := 14) 50 (tX11_joinLine.at 8 rfl) (by decide) he2 (fun c0 => ?_) (fun c0 => ?_)
  · refine r_vret (pc := 50) (tX11_joinLine.at 29 rfl) rfl (Nat.le_of_ble_eq_true rfl) (Nat.le_of_ble_eq_true rfl) ?_
    subst hPo
    rw [MS.jnL, if_neg c0]
    exact ⟨rfl, rfl, rfl⟩
  · refine r_aload_n (pc := 17) (i := 0) (tX11_joinLine.at 9 rfl) rfl rfl ?_
    refine r_get (pc := 18) (tX11_joinLine.at 10 rfl) gf_X11_13 (mH_0) rfl ?_
    refine r_bipush (pc := 21) (w := nI 49) (tX11_joinLine.at 11 rfl) (by decide) ?_
    refine r_aload_n (pc := 23) (i := 0) (tX11_joinLine.at 12 rfl) rfl rfl ?_
    refine r_get (pc := 24) (tX11_joinLine.at 13 rfl) gf_X11_13 (mH_0) rfl ?_
    refine r_iconst (pc := 27) (w := nI 0) (tX11_joinLine.at 14 rfl) (by decide) ?_
    refine r_iald (pc := 28) (tX11_joinLine.at 15 rfl) (mH_red) (0) (rfl) (by omega) (Nat.le_of_ble_eq_true rfl) ?_
    refine r_eq rfl (st2 := [.int (nI (S.rvS.rvS.red 0)), .int (nI 49), .ref (m + 2)]) rfl ?_
    refine r_aload_n (pc := 29) (i := 0) (tX11_joinLine.at 16 rfl) rfl rfl ?_
    refine r_get (pc := 30) (tX11_joinLine.at 17 rfl) gf_X11_13 (mH_0) rfl ?_
    refine r_bipush (pc := 33) (w := nI 49) (tX11_joinLine.at 18 rfl) (by decide) ?_
    refine r_iload_n (pc := 35) (i := 2) (tX11_joinLine.at 19 rfl) rfl rfl ?_
    first | refine r_iaddN (pc := 36) (tX11_joinLine.at 20 rfl) ?_ | refine r_iaddZ (pc := 36) (tX11_joinLine.at 20 rfl) ?_ | refine r_iadd (pc := 36) (tX11_joinLine.at 20 rfl) ?_
    refine r_iald (pc := 37) (tX11_joinLine.at 21 rfl) (mH_red) (49 + S.rvS.rvR) (rfl) (by omega) (Nat.le_of_ble_eq_true rfl) ?_
    refine r_eq rfl (st2 := [.int (nI (S.rvS.rvS.red (49 + S.rvS.rvR))), .int (nI (S.rvS.rvS.red 0)), .int (nI 49), .ref (m + 2)]) rfl ?_
    refine r_aload_n (pc := 38) (i := 0) (tX11_joinLine.at 22 rfl) rfl rfl ?_
    refine r_get (pc := 39) (tX11_joinLine.at 23 rfl) gf_X11_13 (mH_0) rfl ?_
    refine r_bipush (pc := 42) (w := nI 49) (tX11_joinLine.at 24 rfl) (by decide) ?_
    refine r_iload_n (pc := 44) (i := 1) (tX11_joinLine.at 25 rfl) rfl rfl ?_
    first | refine r_iaddN (pc := 45) (tX11_joinLine.at 26 rfl) ?_ | refine r_iaddZ (pc := 45) (tX11_joinLine.at 26 rfl) ?_ | refine r_iadd (pc := 45) (tX11_joinLine.at 26 rfl) ?_
    refine r_iald (pc := 46) (tX11_joinLine.at 27 rfl) (mH_red) (49 + S.rvR) (rfl) (by omega) (Nat.le_of_ble_eq_true rfl) ?_
    refine r_eq rfl (st2 := [.int (nI (S.rvS.rvS.red (49 + S.rvR))), .int (nI (S.rvS.rvS.red (49 + S.rvS.rvR))), .int (nI (S.rvS.rvS.red 0)), .int (nI 49), .ref (m + 2)]) rfl ?_
    refine r_callS (M' := mX11_relabels) (pc := 47) (tX11_joinLine.at 28 rfl) ml_X11_160 rfl mw_X11_relabels ⟨by decide, by decide⟩ (c_mRelab (S := S.rvS.rvS) (by rw [er2]; exact r4) (by rw [er2]; exact r4 _ (by omega)) (by rw [er2]; omega) rfl) rfl rfl (Nat.le_of_ble_eq_true rfl) (Nat.le_of_ble_eq_true rfl) (Nat.le_of_ble_eq_true rfl) ?_
    rintro _ _ _ ⟨rfl, rfl, rfl⟩
    refine r_vret (pc := 50) (tX11_joinLine.at 29 rfl) rfl (Nat.le_of_ble_eq_true rfl) (Nat.le_of_ble_eq_true rfl) ?_
    subst hPo
    rw [MS.jnL, if_pos c0]
    exact ⟨rfl, rfl, rfl⟩
end

