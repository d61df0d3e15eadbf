/-! ===== the reference: absorption, lumped times, checksum ===== -/
def aqT (G : GT) (z y : Int) : Nat := if vtT G z = 0 then (if vtT G y = 0 then (if G.a.testBit y.toNat = true then (if rcm G.W G.n z.toNat &&& G.a ≠ 0 then 0 else 3) else 2) else 1) else 1
def atT (G : GT) (z : Int) : Nat := if vtT G z = 0 then (if rcm G.W G.n z.toNat &&& G.a ≠ 0 then 0 else 2) else 1
def ltT (G : GT) (z y : Int) : Nat := if abT G z y = 0 then (if rcm G.W G.n (fsM G z.toNat) &&& stM G.B y.toNat G.n ≠ 0 then 0 else 2) else abT G z y
def aqN (W : Nat → Nat) (n a i j : Nat) : Int := if a.testBit i = true then (if i = j then 1 else 0) else mnN W n a i (atG W j)
def aqD (W : Nat → Nat) (n a i j : Nat) : Int := if a.testBit i = true then 1 else mnD W n a i (atG W j)
theorem rgtT {S : MS} {c : Nat} (h : S.thr = 0) : S.rgt true c = S := by
  unfold MS.rgt
  rw [if_neg (by simp)]
theorem rgtF {S : MS} {c : Nat} (h : S.thr = 0) : S.rgt false c = S.s_thr c := by
  unfold MS.rgt
  rw [if_pos ⟨h, rfl⟩]
theorem thr0_eq {S : MS} (h : S.thr = 0) : okT0 S = true := decide_eq_true h
theorem thrN_eq {S : MS} (h : S.thr ≠ 0) : okT0 S = false := decide_eq_false h
section
variable {v : Ev} {h : Hp} {top m : Nat} {S : MS} {G : GT} {cn : Nat} {cc : Nat → Int}
theorem c_mAbsn {z y : Int} {p : Nat} (hr : RW S G cn cc) (hz : inI z) (hy : inI y) (hp : p ≤ 1) (ok : aqT G z y = 0 → okMn G.W G.n G.a z.toNat (atG G.W y.toNat)) : Cal v mX11_absorption 6 0 0 [.ref m, .int (zI z), .int (zI y), .int (nI p)] (mH v h m S) top (pA v h m S top (lT (aqT G z y) (lI (fp p (frA (aqN G.W G.n G.a z.toNat y.toNat) (aqD G.W G.n G.a z.toNat y.toNat)) (frB (aqN G.W G.n G.a z.toNat y.toNat) (aqD G.W G.n G.a z.toNat y.toNat))))) (aqT G z y)) noX := by
  have h6 := hr.2.1.1.1
  have ha := hr.2.1.1.2.2.1
  refine Cal.ofJ (by decide +kernel) rfl (Nat.le_of_ble_eq_true rfl) fun hz0 => ?_
  refine r_ls [some (.ref m), some (.int (zI z)), some (.int (zI y)), some (.int (nI p)), none] rfl ?_
  generalize ht : aqT G z y = t at *
  generalize hPo : pA v h m S top (lT t _) t = Po
  have out : ∀ S', per S S' → S'.thr = t → t ≠ 0 → J v mX11_absorption (rmOf 6 0 0) (KM v Po noX 0 0) top 0 0 (mH v h m S') top 53 [some (.ref m), some (.int (zI z)), some (.int (zI y)), some (.int (nI p)), none] [] := by
    intro S' p' t' tn
    refine r_lconst (pc := 53) (w := lI 0) (tX11_absorption.at 29 rfl) (by decide) ?_
    refine r_lret (pc := 54) (tX11_absorption.at 30 rfl) rfl (Nat.le_of_ble_eq_true rfl) (Nat.le_of_ble_eq_true rfl) ?_
    subst hPo
    exact ⟨by rw [lT, if_neg tn]; rfl, rfl, S', rfl, p', t'⟩
  refine r_aload_n (pc := 0) (i := 0) (tX11_absorption.at 0 rfl) rfl rfl ?_
  refine r_iload_n (pc := 1) (i := 1) (tX11_absorption.at 1 rfl) rfl rfl ?_
  refine r_iload_n (pc := 2) (i := 2) (tX11_absorption.at 2 rfl) rfl rfl ?_
  refine r_callV (M' := mX11_starts2) (pc := 3) (tX11_absorption.at 3 rfl) ml_X11_277 rfl mw_X11_starts2 ⟨by decide, by decide⟩ (mH_0) rfl rfl ((c_mStarts2 hr hz hy)) rfl rfl (Nat.le_of_ble_eq_true rfl) (Nat.le_of_ble_eq_true rfl) (Nat.le_of_ble_eq_true rfl) ?_
  rintro _ _ _ ⟨rfl, rfl, S1, rfl, p1, t1, l1⟩
  by_cases cz : vtT G z = 0
  · rw [if_pos cz] at t1 ⊢
    by_cases cy : vtT G y = 0
    · rw [cy] at t1 ⊢
      rw [decide_eq_true rfl, Bool.toNat_true]
      refine r_if_eqN (pc := 6) 53 (tX11_absorption.at 4 rfl) (by decide) (by omega) (fun c => by omega) (fun _ => ?_)
      rw [aqT, if_pos cz, if_pos cy] at ht
      obtain ⟨i, rfl, hi⟩ := vt_nat cz
      obtain ⟨j, rfl, hj⟩ := vt_nat cy
      rw [Int.toNat_natCast, Int.toNat_natCast] at *
      rw [zI_nat, zI_nat] at *
      have g1 := p1.rwG hr.1
      have hR := rcm_lt (W := G.W) (show i < 6 by omega) h6
      refine r_aload_n (pc := 9) (i := 0) (tX11_absorption.at 5 rfl) rfl rfl ?_
      refine r_aload_n (pc := 10) (i := 0) (tX11_absorption.at 6 rfl) rfl rfl ?_
      refine r_iconst (pc := 11) (w := nI 2) (tX11_absorption.at 7 rfl) (by decide) ?_
      refine r_callV (M' := mX11_get) (pc := 12) (tX11_absorption.at 8 rfl) ml_X11_61 rfl mw_X11_get ⟨by decide, by decide⟩ (mH_0) rfl rfl (c_mGet (k := 2) g1.1 (by omega)) rfl rfl (Nat.le_of_ble_eq_true rfl) (Nat.le_of_ble_eq_true rfl) (Nat.le_of_ble_eq_true rfl) ?_
      rintro _ _ _ ⟨rfl, rfl, rfl⟩
      rw [g1.2.2.2.1]
      refine r_iload_n (pc := 15) (i := 2) (tX11_absorption.at 9 rfl) rfl rfl ?_
      refine r_callS (M' := mX11_has) (pc := 16) (tX11_absorption.at 10 rfl) ml_X11_221 rfl mw_X11_has ⟨by decide, by decide⟩ (c_mHas ha (show j < 8 by omega)) rfl rfl (Nat.le_of_ble_eq_true rfl) (Nat.le_of_ble_eq_true rfl) (Nat.le_of_ble_eq_true rfl) ?_
      rintro _ _ _ ⟨rfl, rfl, rfl⟩
      refine r_iconst (pc := 19) (w := nI 2) (tX11_absorption.at 11 rfl) (by decide) ?_
      refine r_callV (M' := mX11_right) (pc := 20) (tX11_absorption.at 12 rfl) ml_X11_190 rfl mw_X11_right ⟨by decide, by decide⟩ (mH_0) rfl rfl (c_mRight (S := S1) (by omega) (by omega)) rfl rfl (Nat.le_of_ble_eq_true rfl) (Nat.le_of_ble_eq_true rfl) (Nat.le_of_ble_eq_true rfl) ?_
      rintro _ _ _ ⟨rfl, rfl, rfl⟩
      cases hbj : G.a.testBit j with
      | false =>
        rw [hbj] at ht
        rw [if_neg (by simp)] at ht
        rw [rgtF t1, thrN_eq (show (S1.s_thr 2).thr ≠ 0 from by show (2 : Nat) ≠ 0; omega), Bool.toNat_false]
        refine r_if_eqN (pc := 23) 53 (tX11_absorption.at 13 rfl) (by decide) (by omega) (fun _ => ?_) (fun c => by omega)
        exact out _ (per.trans p1 (per0 S1 2)) ht (by omega)
      | true =>
        rw [hbj, if_pos rfl] at ht
        rw [rgtT t1, thr0_eq t1, Bool.toNat_true]
        refine r_if_eqN (pc := 23) 53 (tX11_absorption.at 13 rfl) (by decide) (by omega) (fun c => by omega) (fun _ => ?_)
        refine r_aload_n (pc := 26) (i := 0) (tX11_absorption.at 14 rfl) rfl rfl ?_
        refine r_aload_n (pc := 27) (i := 0) (tX11_absorption.at 15 rfl) rfl rfl ?_
        refine r_iload_n (pc := 28) (i := 1) (tX11_absorption.at 16 rfl) rfl rfl ?_
        refine r_callV (M' := mX11_reachedFrom) (pc := 29) (tX11_absorption.at 17 rfl) ml_X11_249 rfl mw_X11_reachedFrom ⟨by decide, by decide⟩ (mH_0) rfl rfl (c_mReach g1 l1 h6 (by omega) hr.2.1.w9) rfl rfl (Nat.le_of_ble_eq_true rfl) (Nat.le_of_ble_eq_true rfl) (Nat.le_of_ble_eq_true rfl) ?_
        rintro _ _ _ ⟨rfl, rfl, rfl⟩
        refine r_aload_n (pc := 32) (i := 0) (tX11_absorption.at 18 rfl) rfl rfl ?_
        refine r_iconst (pc := 33) (w := nI 2) (tX11_absorption.at 19 rfl) (by decide) ?_
        refine r_callV (M' := mX11_get) (pc := 34) (tX11_absorption.at 20 rfl) ml_X11_61 rfl mw_X11_get ⟨by decide, by decide⟩ (mH_0) rfl rfl (c_mGet (k := 2) g1.1 (by omega)) rfl rfl (Nat.le_of_ble_eq_true rfl) (Nat.le_of_ble_eq_true rfl) (Nat.le_of_ble_eq_true rfl) ?_
        rintro _ _ _ ⟨rfl, rfl, rfl⟩
        rw [g1.2.2.2.1]
        refine r_iand (pc := 37) (tX11_absorption.at 21 rfl) ?_
        rw [bs_and _ hR _ ha]
        have hlt : rcm G.W G.n i &&& G.a < 64 := and_lt hR
        by_cases cr : rcm G.W G.n i &&& G.a = 0
        · rw [if_neg (by simp [cr])] at ht
          refine r_if_eqN (pc := 38) 45 (tX11_absorption.at 22 rfl) (by decide) (by omega) (fun _ => ?_) (fun c => by omega)
          refine r_iconst (pc := 45) (w := nI (Bool.toNat false)) (tX11_absorption.at 25 rfl) (by decide) ?_
          refine r_iconst (pc := 46) (w := nI 3) (tX11_absorption.at 26 rfl) (by decide) ?_
          refine r_callV (M' := mX11_right) (pc := 47) (tX11_absorption.at 27 rfl) ml_X11_190 rfl mw_X11_right ⟨by decide, by decide⟩ (mH_0) rfl rfl (c_mRight (S := S1) (by omega) (by omega)) rfl rfl (Nat.le_of_ble_eq_true rfl) (Nat.le_of_ble_eq_true rfl) (Nat.le_of_ble_eq_true rfl) ?_
          rintro _ _ _ ⟨rfl, rfl, rfl⟩
          rw [rgtF t1, thrN_eq (show (S1.s_thr 3).thr ≠ 0 from by show (3 : Nat) ≠ 0; omega), Bool.toNat_false]
          refine r_if_neN (pc := 50) 55 (tX11_absorption.at 28 rfl) (by decide) (by omega) (fun c => by omega) (fun _ => ?_)
          exact out _ (per.trans p1 (per0 S1 3)) ht (by omega)
        · rw [if_pos cr] at ht
          have ok := ok ht.symm
          refine r_if_eqN (pc := 38) 45 (tX11_absorption.at 22 rfl) (by decide) (by omega) (fun c => by omega) (fun _ => ?_)
          refine r_iconst (pc := 41) (w := nI (Bool.toNat true)) (tX11_absorption.at 23 rfl) (by decide) ?_
          refine r_goto (pc := 42) 46 (tX11_absorption.at 24 rfl) (by decide) ?_
          refine r_iconst (pc := 46) (w := nI 3) (tX11_absorption.at 26 rfl) (by decide) ?_
          refine r_callV (M' := mX11_right) (pc := 47) (tX11_absorption.at 27 rfl) ml_X11_190 rfl mw_X11_right ⟨by decide, by decide⟩ (mH_0) rfl rfl (c_mRight (S := S1) (by omega) (by omega)) rfl rfl (Nat.le_of_ble_eq_true rfl) (Nat.le_of_ble_eq_true rfl) (Nat.le_of_ble_eq_true rfl) ?_
          rintro _ _ _ ⟨rfl, rfl, rfl⟩
          rw [rgtT t1, thr0_eq t1, Bool.toNat_true]
          refine r_if_neN (pc := 50) 55 (tX11_absorption.at 28 rfl) (by decide) (by omega) (fun _ => ?_) (fun c => by omega)
          have fin : ∀ S3 : MS, per S1 S3 → S3.thr = S1.thr → S3.abv = frA (aqN G.W G.n G.a i j) (aqD G.W G.n G.a i j) → S3.blw = frB (aqN G.W G.n G.a i j) (aqD G.W G.n G.a i j) → Po (some (.long (lI (fp p S3.abv S3.blw)))) (mH v h m S3) top := by
            intro S3 p3 t3 a3 b3
            subst hPo
            exact ⟨by rw [lT, if_pos ht.symm, a3, b3], rfl, S3, rfl, per.trans p1 p3, by rw [t3, t1, ht]⟩
          refine r_aload_n (pc := 55) (i := 0) (tX11_absorption.at 31 rfl) rfl rfl ?_
          refine r_iconst (pc := 56) (w := nI 2) (tX11_absorption.at 32 rfl) (by decide) ?_
          refine r_callV (M' := mX11_get) (pc := 57) (tX11_absorption.at 33 rfl) ml_X11_61 rfl mw_X11_get ⟨by decide, by decide⟩ (mH_0) rfl rfl (c_mGet (k := 2) g1.1 (by omega)) rfl rfl (Nat.le_of_ble_eq_true rfl) (Nat.le_of_ble_eq_true rfl) (Nat.le_of_ble_eq_true rfl) ?_
          rintro _ _ _ ⟨rfl, rfl, rfl⟩
          rw [g1.2.2.2.1]
          have hb : Bool.toNat (G.a.testBit i) ≤ 1 := Bool.toNat_le _
          refine r_iload_n (pc := 60) (i := 1) (tX11_absorption.at 34 rfl) rfl rfl ?_
          refine r_callS (M' := mX11_has) (pc := 61) (tX11_absorption.at 35 rfl) ml_X11_221 rfl mw_X11_has ⟨by decide, by decide⟩ (c_mHas ha (show i < 8 by omega)) rfl rfl (Nat.le_of_ble_eq_true rfl) (Nat.le_of_ble_eq_true rfl) (Nat.le_of_ble_eq_true rfl) ?_
          rintro _ _ _ ⟨rfl, rfl, rfl⟩
          refine r_if_eqN (pc := 64) 88 (tX11_absorption.at 36 rfl) (by decide) (by omega) (fun c => ?_) (fun c => ?_)
          · have c := tbF c
            refine r_aload_n (pc := 88) (i := 0) (tX11_absorption.at 50 rfl) rfl rfl ?_
            refine r_aload_n (pc := 89) (i := 0) (tX11_absorption.at 51 rfl) rfl rfl ?_
            refine r_iload_n (pc := 90) (i := 1) (tX11_absorption.at 52 rfl) rfl rfl ?_
            refine r_callV (M' := mX11_reachedFrom) (pc := 91) (tX11_absorption.at 53 rfl) ml_X11_249 rfl mw_X11_reachedFrom ⟨by decide, by decide⟩ (mH_0) rfl rfl (c_mReach g1 l1 h6 (by omega) hr.2.1.w9) rfl rfl (Nat.le_of_ble_eq_true rfl) (Nat.le_of_ble_eq_true rfl) (Nat.le_of_ble_eq_true rfl) ?_
            rintro _ _ _ ⟨rfl, rfl, rfl⟩
            refine r_aload_n (pc := 94) (i := 0) (tX11_absorption.at 54 rfl) rfl rfl ?_
            refine r_iconst (pc := 95) (w := nI 2) (tX11_absorption.at 55 rfl) (by decide) ?_
            refine r_callV (M' := mX11_get) (pc := 96) (tX11_absorption.at 56 rfl) ml_X11_61 rfl mw_X11_get ⟨by decide, by decide⟩ (mH_0) rfl rfl (c_mGet (k := 2) g1.1 (by omega)) rfl rfl (Nat.le_of_ble_eq_true rfl) (Nat.le_of_ble_eq_true rfl) (Nat.le_of_ble_eq_true rfl) ?_
            rintro _ _ _ ⟨rfl, rfl, rfl⟩
            rw [g1.2.2.2.1]
            refine r_callV (M' := mX11_begins) (pc := 99) (tX11_absorption.at 57 rfl) ml_X11_252 rfl mw_X11_begins ⟨by decide, by decide⟩ (mH_0) rfl rfl ((c_mBegins g1 l1 h6 hR ha hr.2.1.w9)) rfl rfl (Nat.le_of_ble_eq_true rfl) (Nat.le_of_ble_eq_true rfl) (Nat.le_of_ble_eq_true rfl) ?_
            rintro _ _ _ ⟨rfl, rfl, S2, rfl, p2, ms⟩
            have hg2 := p2.1.rwG g1
            have hl2 := p2.ld l1
            refine r_iconst (pc := 102) (w := nI 0) (tX11_absorption.at 58 rfl) (by decide) ?_
            refine r_istore (pc := 103) (i := 4) (tX11_absorption.at 59 rfl) (by decide) ?_
            have key : ∀ k u M (g : Nat → Int), u + k = G.n → (∀ w, w < u → g w = atG G.W j w) → mtS (S2.s_mtx M) G.W G.n (unP (rcm G.W G.n i) G.a) g → J v mX11_absorption (rmOf 6 0 0) (KM v Po noX 0 0) top 0 0 (mH v h m (S2.s_mtx M)) top 105 [some (.ref m), some (.int (nI i)), some (.int (nI j)), some (.int (nI p)), some (.int (nI u))] [] := by
              intro k
              induction k with
              | zero =>
                intro u M g hu hgu ms
                have hu : u = G.n := by omega
                subst hu
                refine r_iload (pc := 105) (i := 4) (tX11_absorption.at 60 rfl) rfl ?_
                refine r_aload_n (pc := 107) (i := 0) (tX11_absorption.at 61 rfl) rfl rfl ?_
                refine r_callV (M' := mX11_count) (pc := 108) (tX11_absorption.at 62 rfl) ml_X11_218 rfl mw_X11_count ⟨by decide, by decide⟩ (mH_0) rfl rfl (c_mCount (S := S2.s_mtx M) hg2.1) rfl rfl (Nat.le_of_ble_eq_true rfl) (Nat.le_of_ble_eq_true rfl) (Nat.le_of_ble_eq_true rfl) ?_
                rintro _ _ _ ⟨rfl, rfl, rfl⟩
                rw [show (S2.s_mtx M).rw 0 = G.n from hg2.2.1]
                refine r_icmp_geN (pc := 111) 139 (tX11_absorption.at 63 rfl) (by decide) (by omega) (by omega) (fun _ => ?_) (fun c => by omega)
                refine r_aload_n (pc := 139) (i := 0) (tX11_absorption.at 78 rfl) rfl rfl ?_
                refine r_iload_n (pc := 140) (i := 1) (tX11_absorption.at 79 rfl) rfl rfl ?_
                refine r_callV (M' := mX11_solves) (pc := 141) (tX11_absorption.at 80 rfl) ml_X11_259 rfl mw_X11_solves ⟨by decide, by decide⟩ (mH_0) rfl rfl ((c_mSol2 (ms.cong (g2 := atG G.W j) hgu) h6 hi c ok)) rfl rfl (Nat.le_of_ble_eq_true rfl) (Nat.le_of_ble_eq_true rfl) (Nat.le_of_ble_eq_true rfl) ?_
                rintro _ _ _ ⟨rfl, rfl, S3, rfl, p3, a3, b3⟩
                refine r_aload_n (pc := 144) (i := 0) (tX11_absorption.at 81 rfl) rfl rfl ?_
                refine r_iload_n (pc := 145) (i := 3) (tX11_absorption.at 82 rfl) rfl rfl ?_
                refine r_callV (M' := mX11_told) (pc := 146) (tX11_absorption.at 83 rfl) ml_X11_283 rfl mw_X11_told ⟨by decide, by decide⟩ (mH_0) rfl rfl (c_mTold hp) rfl rfl (Nat.le_of_ble_eq_true rfl) (Nat.le_of_ble_eq_true rfl) (Nat.le_of_ble_eq_true rfl) ?_
                rintro _ _ _ ⟨rfl, rfl, rfl⟩
                refine r_lret (pc := 149) (tX11_absorption.at 84 rfl) rfl (Nat.le_of_ble_eq_true rfl) (Nat.le_of_ble_eq_true rfl) ?_
                have p12 : pel S2 (S2.s_mtx M) := ⟨⟨⟨rfl, rfl, rfl, rfl⟩, rfl, rfl⟩, rfl, rfl, rfl, rfl⟩
                have pp := p2.trans (p12.trans p3)
                exact fin S3 pp.1 pp.2.1 (by rw [aqN, aqD, if_neg (by rw [c]; simp), if_neg (by rw [c]; simp)]; exact a3) (by rw [aqN, aqD, if_neg (by rw [c]; simp), if_neg (by rw [c]; simp)]; exact b3)
              | succ k ih =>
                intro u M g hu hgu ms
                have hw9 := hr.2.1.w9 (u * 6 + j) (by omega)
                refine r_iload (pc := 105) (i := 4) (tX11_absorption.at 60 rfl) rfl ?_
                refine r_aload_n (pc := 107) (i := 0) (tX11_absorption.at 61 rfl) rfl rfl ?_
                refine r_callV (M' := mX11_count) (pc := 108) (tX11_absorption.at 62 rfl) ml_X11_218 rfl mw_X11_count ⟨by decide, by decide⟩ (mH_0) rfl rfl (c_mCount (S := S2.s_mtx M) hg2.1) rfl rfl (Nat.le_of_ble_eq_true rfl) (Nat.le_of_ble_eq_true rfl) (Nat.le_of_ble_eq_true rfl) ?_
                rintro _ _ _ ⟨rfl, rfl, rfl⟩
                rw [show (S2.s_mtx M).rw 0 = G.n from hg2.2.1]
                refine r_icmp_geN (pc := 111) 139 (tX11_absorption.at 63 rfl) (by decide) (by omega) (by omega) (fun c => by omega) (fun _ => ?_)
                refine r_aload_n (pc := 114) (i := 0) (tX11_absorption.at 64 rfl) rfl rfl ?_
                refine r_iload (pc := 115) (i := 4) (tX11_absorption.at 65 rfl) rfl ?_
                refine r_aload_n (pc := 117) (i := 0) (tX11_absorption.at 66 rfl) rfl rfl ?_
                refine r_get (pc := 118) (tX11_absorption.at 67 rfl) gf_X11_23 (mH_0) rfl ?_
                refine r_bipush (pc := 121) (w := nI 6) (tX11_absorption.at 68 rfl) (by decide) ?_
                refine r_iload (pc := 123) (i := 4) (tX11_absorption.at 69 rfl) rfl ?_
                first | refine r_imulN (pc := 125) (tX11_absorption.at 70 rfl) ?_ | refine r_imulZ (pc := 125) (tX11_absorption.at 70 rfl) ?_ | refine r_imul (pc := 125) (tX11_absorption.at 70 rfl) ?_
                refine r_iload_n (pc := 126) (i := 2) (tX11_absorption.at 71 rfl) rfl rfl ?_
                first | refine r_iaddN (pc := 127) (tX11_absorption.at 72 rfl) ?_ | refine r_iaddZ (pc := 127) (tX11_absorption.at 72 rfl) ?_ | refine r_iadd (pc := 127) (tX11_absorption.at 72 rfl) ?_
                refine r_iald (pc := 128) (tX11_absorption.at 73 rfl) (mH_wts) (6 * u + j) (rfl) (by omega) (Nat.le_of_ble_eq_true rfl) ?_
                refine r_eq rfl (st2 := [.int (nI (G.W (u * 6 + j))), .int (nI u), .ref m]) (by rw [← (hl2.1 u j (by omega) (by omega)).1]; rfl) ?_
                first | refine r_i2lN (pc := 129) (tX11_absorption.at 74 rfl) (by omega) ?_ | refine r_i2lZ (pc := 129) (tX11_absorption.at 74 rfl) ⟨by omega, by omega⟩ ?_ | refine r_i2l (pc := 129) (tX11_absorption.at 74 rfl) ?_
                refine r_callV (M' := mX11_further) (pc := 130) (tX11_absorption.at 75 rfl) ml_X11_255 rfl mw_X11_further ⟨by decide, by decide⟩ (mH_0) rfl rfl ((c_mFur (w := (G.W (u * 6 + j) : Nat)) ms h6 (by omega))) rfl rfl (Nat.le_of_ble_eq_true rfl) (Nat.le_of_ble_eq_true rfl) (Nat.le_of_ble_eq_true rfl) ?_
                rintro _ _ _ ⟨rfl, rfl, M2, rfl, ms2⟩
                refine r_eq (h2 := mH v h m (S2.s_mtx M2)) rfl rfl ?_
                first | refine r_iincN (pc := 133) (tX11_absorption.at 76 rfl) rfl (by decide) ?_ | refine r_iinc (pc := 133) (tX11_absorption.at 76 rfl) rfl rfl (by decide) ?_
                refine r_goto (pc := 136) 105 (tX11_absorption.at 77 rfl) (by decide) ?_
                refine ih (u + 1) M2 _ (by omega) (fun w hw => ?_) ms2
                by_cases q : w = u
                · rw [q, upZ_eq]
                  rfl
                · rw [upZ_ne _ _ q]
                  exact hgu w (by omega)
            refine r_eq (h2 := mH v h m (S2.s_mtx S2.mtx)) rfl rfl ?_
            exact key G.n 0 S2.mtx (fun _ => 0) (by omega) (fun w hw => by omega) ms
          · have c := tbT c
            have fin2 : ∀ x : Int, x = (if i = j then 1 else 0) → J v mX11_absorption (rmOf 6 0 0) (KM v Po noX 0 0) top 0 0 (mH v h m S1) top 78 [some (.ref m), some (.int (nI i)), some (.int (nI j)), some (.int (nI p)), none] [.long (lI x), .ref m] := by
              intro x hx
              have hx1 : 0 ≤ x ∧ x ≤ 1 := by rw [hx]; split <;> omega
              refine r_lconst (pc := 78) (w := lI 1) (tX11_absorption.at 44 rfl) (by decide) ?_
              refine r_callV (M' := mX11_fraction) (pc := 79) (tX11_absorption.at 45 rfl) ml_X11_245 rfl mw_X11_fraction ⟨by decide, by decide⟩ (mH_0) rfl rfl (c_mFrac ⟨by omega, by omega⟩ ⟨by omega, by omega⟩) rfl rfl (Nat.le_of_ble_eq_true rfl) (Nat.le_of_ble_eq_true rfl) (Nat.le_of_ble_eq_true rfl) ?_
              rintro _ _ _ ⟨rfl, rfl, rfl⟩
              refine r_aload_n (pc := 82) (i := 0) (tX11_absorption.at 46 rfl) rfl rfl ?_
              refine r_iload_n (pc := 83) (i := 3) (tX11_absorption.at 47 rfl) rfl rfl ?_
              refine r_callV (M' := mX11_told) (pc := 84) (tX11_absorption.at 48 rfl) ml_X11_283 rfl mw_X11_told ⟨by decide, by decide⟩ (mH_0) rfl rfl (c_mTold hp) rfl rfl (Nat.le_of_ble_eq_true rfl) (Nat.le_of_ble_eq_true rfl) (Nat.le_of_ble_eq_true rfl) ?_
              rintro _ _ _ ⟨rfl, rfl, rfl⟩
              refine r_lret (pc := 87) (tX11_absorption.at 49 rfl) rfl (Nat.le_of_ble_eq_true rfl) (Nat.le_of_ble_eq_true rfl) ?_
              exact fin _ ⟨⟨rfl, rfl, rfl, rfl⟩, rfl, rfl⟩ rfl (by rw [aqN, aqD, if_pos c, if_pos c, ← hx]; rfl) (by rw [aqN, aqD, if_pos c, if_pos c, ← hx]; rfl)
            refine r_aload_n (pc := 67) (i := 0) (tX11_absorption.at 37 rfl) rfl rfl ?_
            refine r_iload_n (pc := 68) (i := 1) (tX11_absorption.at 38 rfl) rfl rfl ?_
            refine r_iload_n (pc := 69) (i := 2) (tX11_absorption.at 39 rfl) rfl rfl ?_
            refine r_icmp_neN (pc := 70) 77 (tX11_absorption.at 40 rfl) (by decide) (by omega) (by omega) (fun q => ?_) (fun q => ?_)
            · refine r_lconst (pc := 77) (w := lI 0) (tX11_absorption.at 43 rfl) (by decide) ?_
              exact fin2 0 (by rw [if_neg q])
            · refine r_lconst (pc := 73) (w := lI 1) (tX11_absorption.at 41 rfl) (by decide) ?_
              refine r_goto (pc := 74) 78 (tX11_absorption.at 42 rfl) (by decide) ?_
              exact fin2 1 (by rw [if_pos q])
    · have cy1 : vtT G y = 1 := by unfold vtT at *; split <;> simp_all
      rw [cy1] at t1 ⊢
      rw [aqT, if_pos cz, if_neg cy] at ht
      rw [decide_eq_false (by omega), Bool.toNat_false]
      refine r_if_eqN (pc := 6) 53 (tX11_absorption.at 4 rfl) (by decide) (by omega) (fun _ => ?_) (fun c => by omega)
      exact out _ p1 (by rw [t1, ht]) (by omega)
  · rw [if_neg cz] at t1 ⊢
    rw [aqT, if_neg cz] at ht
    rw [decide_eq_false (by omega), Bool.toNat_false]
    refine r_if_eqN (pc := 6) 53 (tX11_absorption.at 4 rfl) (by decide) (by omega) (fun _ => ?_) (fun c => by omega)
    exact out _ p1 (by rw [t1, ht]) (by omega)
theorem c_mAbsT {z : Int} {p : Nat} (hr : RW S G cn cc) (hz : inI z) (hp : p ≤ 1) (ok : atT G z = 0 → okMn G.W G.n G.a z.toNat (stG G.W G.n)) : Cal v mX11_absorptionTime 6 0 0 [.ref m, .int (zI z), .int (nI p)] (mH v h m S) top (pA v h m S top (lT (atT G z) (lI (mqP G.W G.n G.a z.toNat (stG G.W G.n) p))) (atT G z)) noX := by
  have h6 := hr.2.1.1.1
  have ha := hr.2.1.1.2.2.1
  refine Cal.ofJ (by decide +kernel) rfl (Nat.le_of_ble_eq_true rfl) fun hz0 => ?_
  refine r_ls [some (.ref m), some (.int (zI z)), some (.int (nI p))] rfl ?_
  generalize ht : atT G z = t at *
  generalize hPo : pA v h m S top (lT t _) t = Po
  have out : ∀ S', per S S' → S'.thr = t → t ≠ 0 → J v mX11_absorptionTime (rmOf 6 0 0) (KM v Po noX 0 0) top 0 0 (mH v h m S') top 35 [some (.ref m), some (.int (zI z)), some (.int (nI p))] [] := by
    intro S' p' t' tn
    refine r_lconst (pc := 35) (w := lI 0) (tX11_absorptionTime.at 19 rfl) (by decide) ?_
    refine r_lret (pc := 36) (tX11_absorptionTime.at 20 rfl) rfl (Nat.le_of_ble_eq_true rfl) (Nat.le_of_ble_eq_true rfl) ?_
    subst hPo
    exact ⟨by rw [lT, if_neg tn]; rfl, rfl, S', rfl, p', t'⟩
  refine r_aload_n (pc := 0) (i := 0) (tX11_absorptionTime.at 0 rfl) rfl rfl ?_
  refine r_iload_n (pc := 1) (i := 1) (tX11_absorptionTime.at 1 rfl) rfl rfl ?_
  refine r_callV (M' := mX11_starts) (pc := 2) (tX11_absorptionTime.at 2 rfl) ml_X11_274 rfl mw_X11_starts ⟨by decide, by decide⟩ (mH_0) rfl rfl ((c_mStarts hr hz)) rfl rfl (Nat.le_of_ble_eq_true rfl) (Nat.le_of_ble_eq_true rfl) (Nat.le_of_ble_eq_true rfl) ?_
  rintro _ _ _ ⟨rfl, rfl, S1, rfl, p1, t1, l1⟩
  by_cases cz : vtT G z = 0
  · rw [cz] at t1 ⊢
    rw [decide_eq_true rfl, Bool.toNat_true]
    refine r_if_eqN (pc := 5) 35 (tX11_absorptionTime.at 3 rfl) (by decide) (by omega) (fun c => by omega) (fun _ => ?_)
    rw [atT, if_pos cz] at ht
    obtain ⟨i, rfl, hi⟩ := vt_nat cz
    rw [Int.toNat_natCast] at *
    rw [zI_nat] at *
    have g1 := p1.rwG hr.1
    have hR := rcm_lt (W := G.W) (show i < 6 by omega) h6
    refine r_aload_n (pc := 8) (i := 0) (tX11_absorptionTime.at 4 rfl) rfl rfl ?_
    refine r_aload_n (pc := 9) (i := 0) (tX11_absorptionTime.at 5 rfl) rfl rfl ?_
    refine r_iload_n (pc := 10) (i := 1) (tX11_absorptionTime.at 6 rfl) rfl rfl ?_
    refine r_callV (M' := mX11_reachedFrom) (pc := 11) (tX11_absorptionTime.at 7 rfl) ml_X11_249 rfl mw_X11_reachedFrom ⟨by decide, by decide⟩ (mH_0) rfl rfl (c_mReach g1 l1 h6 (by omega) hr.2.1.w9) rfl rfl (Nat.le_of_ble_eq_true rfl) (Nat.le_of_ble_eq_true rfl) (Nat.le_of_ble_eq_true rfl) ?_
    rintro _ _ _ ⟨rfl, rfl, rfl⟩
    refine r_aload_n (pc := 14) (i := 0) (tX11_absorptionTime.at 8 rfl) rfl rfl ?_
    refine r_iconst (pc := 15) (w := nI 2) (tX11_absorptionTime.at 9 rfl) (by decide) ?_
    refine r_callV (M' := mX11_get) (pc := 16) (tX11_absorptionTime.at 10 rfl) ml_X11_61 rfl mw_X11_get ⟨by decide, by decide⟩ (mH_0) rfl rfl (c_mGet (k := 2) g1.1 (by omega)) rfl rfl (Nat.le_of_ble_eq_true rfl) (Nat.le_of_ble_eq_true rfl) (Nat.le_of_ble_eq_true rfl) ?_
    rintro _ _ _ ⟨rfl, rfl, rfl⟩
    rw [g1.2.2.2.1]
    refine r_iand (pc := 19) (tX11_absorptionTime.at 11 rfl) ?_
    rw [bs_and _ hR _ ha]
    have hlt : rcm G.W G.n i &&& G.a < 64 := and_lt hR
    by_cases cr : rcm G.W G.n i &&& G.a = 0
    · rw [if_neg (by simp [cr])] at ht
      refine r_if_eqN (pc := 20) 27 (tX11_absorptionTime.at 12 rfl) (by decide) (by omega) (fun _ => ?_) (fun c => by omega)
      refine r_iconst (pc := 27) (w := nI (Bool.toNat false)) (tX11_absorptionTime.at 15 rfl) (by decide) ?_
      refine r_iconst (pc := 28) (w := nI 2) (tX11_absorptionTime.at 16 rfl) (by decide) ?_
      refine r_callV (M' := mX11_right) (pc := 29) (tX11_absorptionTime.at 17 rfl) ml_X11_190 rfl mw_X11_right ⟨by decide, by decide⟩ (mH_0) rfl rfl (c_mRight (S := S1) (by omega) (by omega)) rfl rfl (Nat.le_of_ble_eq_true rfl) (Nat.le_of_ble_eq_true rfl) (Nat.le_of_ble_eq_true rfl) ?_
      rintro _ _ _ ⟨rfl, rfl, rfl⟩
      rw [rgtF t1, thrN_eq (show (S1.s_thr 2).thr ≠ 0 from by show (2 : Nat) ≠ 0; omega), Bool.toNat_false]
      refine r_if_neN (pc := 32) 37 (tX11_absorptionTime.at 18 rfl) (by decide) (by omega) (fun c => by omega) (fun _ => ?_)
      exact out _ (per.trans p1 (per0 S1 2)) ht (by omega)
    · rw [if_pos cr] at ht
      have ok := ok ht.symm
      refine r_if_eqN (pc := 20) 27 (tX11_absorptionTime.at 12 rfl) (by decide) (by omega) (fun c => by omega) (fun _ => ?_)
      refine r_iconst (pc := 23) (w := nI (Bool.toNat true)) (tX11_absorptionTime.at 13 rfl) (by decide) ?_
      refine r_goto (pc := 24) 28 (tX11_absorptionTime.at 14 rfl) (by decide) ?_
      refine r_iconst (pc := 28) (w := nI 2) (tX11_absorptionTime.at 16 rfl) (by decide) ?_
      refine r_callV (M' := mX11_right) (pc := 29) (tX11_absorptionTime.at 17 rfl) ml_X11_190 rfl mw_X11_right ⟨by decide, by decide⟩ (mH_0) rfl rfl (c_mRight (S := S1) (by omega) (by omega)) rfl rfl (Nat.le_of_ble_eq_true rfl) (Nat.le_of_ble_eq_true rfl) (Nat.le_of_ble_eq_true rfl) ?_
      rintro _ _ _ ⟨rfl, rfl, rfl⟩
      rw [rgtT t1, thr0_eq t1, Bool.toNat_true]
      refine r_if_neN (pc := 32) 37 (tX11_absorptionTime.at 18 rfl) (by decide) (by omega) (fun _ => ?_) (fun c => by omega)
      refine r_aload_n (pc := 37) (i := 0) (tX11_absorptionTime.at 21 rfl) rfl rfl ?_
      refine r_iload_n (pc := 38) (i := 1) (tX11_absorptionTime.at 22 rfl) rfl rfl ?_
      refine r_aload_n (pc := 39) (i := 0) (tX11_absorptionTime.at 23 rfl) rfl rfl ?_
      refine r_iconst (pc := 40) (w := nI 2) (tX11_absorptionTime.at 24 rfl) (by decide) ?_
      refine r_callV (M' := mX11_get) (pc := 41) (tX11_absorptionTime.at 25 rfl) ml_X11_61 rfl mw_X11_get ⟨by decide, by decide⟩ (mH_0) rfl rfl (c_mGet (k := 2) g1.1 (by omega)) rfl rfl (Nat.le_of_ble_eq_true rfl) (Nat.le_of_ble_eq_true rfl) (Nat.le_of_ble_eq_true rfl) ?_
      rintro _ _ _ ⟨rfl, rfl, rfl⟩
      rw [g1.2.2.2.1]
      refine r_iconst (pc := 44) (w := nI 0) (tX11_absorptionTime.at 26 rfl) (by decide) ?_
      refine r_callV (M' := mX11_meanTo) (pc := 45) (tX11_absorptionTime.at 27 rfl) ml_X11_290 rfl mw_X11_meanTo ⟨by decide, by decide⟩ (mH_0) rfl rfl ((c_mMean (p := 0) g1 l1 h6 hr.2.1.w9 hi ha (by omega) (fun k hk => stG_gn) ok)) rfl rfl (Nat.le_of_ble_eq_true rfl) (Nat.le_of_ble_eq_true rfl) (Nat.le_of_ble_eq_true rfl) ?_
      rintro _ _ _ ⟨rfl, rfl, S2, rfl, p2, a2, b2⟩
      refine r_aload_n (pc := 48) (i := 0) (tX11_absorptionTime.at 28 rfl) rfl rfl ?_
      refine r_iload_n (pc := 49) (i := 2) (tX11_absorptionTime.at 29 rfl) rfl rfl ?_
      refine r_callV (M' := mX11_told) (pc := 50) (tX11_absorptionTime.at 30 rfl) ml_X11_283 rfl mw_X11_told ⟨by decide, by decide⟩ (mH_0) rfl rfl (c_mTold hp) rfl rfl (Nat.le_of_ble_eq_true rfl) (Nat.le_of_ble_eq_true rfl) (Nat.le_of_ble_eq_true rfl) ?_
      rintro _ _ _ ⟨rfl, rfl, rfl⟩
      rw [a2, b2]
      refine r_lret (pc := 53) (tX11_absorptionTime.at 31 rfl) rfl (Nat.le_of_ble_eq_true rfl) (Nat.le_of_ble_eq_true rfl) ?_
      subst hPo
      exact ⟨by rw [lT, if_pos ht.symm]; rfl, rfl, S2, rfl, per.trans p1 p2.1, by rw [p2.2.1, t1, ht]⟩
  · have cz1 : vtT G z = 1 := by unfold vtT at *; split <;> simp_all
    rw [cz1] at t1 ⊢
    rw [atT, if_neg cz] at ht
    rw [decide_eq_false (by omega), Bool.toNat_false]
    refine r_if_eqN (pc := 5) 35 (tX11_absorptionTime.at 3 rfl) (by decide) (by omega) (fun _ => ?_) (fun c => by omega)
    exact out _ p1 (by rw [t1, ht]) (by omega)
theorem c_mLumpT {z y : Int} {p : Nat} (hr : RW S G cn cc) (hb : bkM G.B G.n = G.b) (hb6 : G.b ≤ 6) (hex : ∀ b, b < G.b → ∃ k, k < G.n ∧ G.B k = b) (hz : inI z) (hy : inI y) (hp : p ≤ 1) (ok : ltT G z y = 0 → okMn G.W G.n (stM G.B y.toNat G.n) (fsM G z.toNat) (stG G.W G.n)) : Cal v mX11_lumpedTime 7 0 0 [.ref m, .int (zI z), .int (zI y), .int (nI p)] (mH v h m S) top (pA v h m S top (lT (ltT G z y) (lI (mqP G.W G.n (stM G.B y.toNat G.n) (fsM G z.toNat) (stG G.W G.n) p))) (ltT G z y)) noX := by
  have h6 := hr.2.1.1.1
  have hB : ∀ k, k < G.n → G.B k ≤ 6 := fun k hk => hr.2.1.1.2.2.2.1 k (by omega)
  refine Cal.ofJ (by decide +kernel) rfl (Nat.le_of_ble_eq_true rfl) fun hz0 => ?_
  refine r_ls [some (.ref m), some (.int (zI z)), some (.int (zI y)), some (.int (nI p)), none] rfl ?_
  generalize ht : ltT G z y = t at *
  generalize hPo : pA v h m S top (lT t _) t = Po
  refine r_aload_n (pc := 0) (i := 0) (tX11_lumpedTime.at 0 rfl) rfl rfl ?_
  refine r_iload_n (pc := 1) (i := 1) (tX11_lumpedTime.at 1 rfl) rfl rfl ?_
  refine r_iload_n (pc := 2) (i := 2) (tX11_lumpedTime.at 2 rfl) rfl rfl ?_
  refine r_callV (M' := mX11_areBlocks) (pc := 3) (tX11_lumpedTime.at 3 rfl) ml_X11_317 rfl mw_X11_areBlocks ⟨by decide, by decide⟩ (mH_0) rfl rfl ((c_mAreB hr hb hb6 hz hy)) rfl rfl (Nat.le_of_ble_eq_true rfl) (Nat.le_of_ble_eq_true rfl) (Nat.le_of_ble_eq_true rfl) ?_
  rintro _ _ _ ⟨rfl, rfl, S1, rfl, p1, t1, l1⟩
  by_cases c : abT G z y = 0
  · rw [c] at t1 l1 ⊢
    rw [decide_eq_true rfl, Bool.toNat_true]
    refine r_if_neN (pc := 6) 11 (tX11_lumpedTime.at 4 rfl) (by decide) (by omega) (fun _ => ?_) (fun c => by omega)
    have l1 := l1 rfl
    rw [ltT, if_pos c] at ht
    obtain ⟨⟨i, j, rfl, rfl, hi, hj⟩, -⟩ := ab_nat c
    obtain ⟨f1, f2⟩ := fsM_lt (hex i hi)
    have g1 := p1.rwG hr.1
    rw [Int.toNat_natCast, Int.toNat_natCast] at *
    rw [zI_nat, zI_nat] at *
    have hR := rcm_lt (W := G.W) (show fsM G i < 6 by omega) h6
    have hT := stM_lt G.B j G.n h6
    refine r_aload_n (pc := 11) (i := 0) (tX11_lumpedTime.at 7 rfl) rfl rfl ?_
    refine r_iload_n (pc := 12) (i := 1) (tX11_lumpedTime.at 8 rfl) rfl rfl ?_
    refine r_callV (M' := mX11_firstOf) (pc := 13) (tX11_lumpedTime.at 9 rfl) ml_X11_320 rfl mw_X11_firstOf ⟨by decide, by decide⟩ (mH_0) rfl rfl (c_mFirst g1 h6 hB (show i ≤ 6 by omega) (hex i hi)) rfl rfl (Nat.le_of_ble_eq_true rfl) (Nat.le_of_ble_eq_true rfl) (Nat.le_of_ble_eq_true rfl) ?_
    rintro _ _ _ ⟨rfl, rfl, rfl⟩
    refine r_istore (pc := 16) (i := 4) (tX11_lumpedTime.at 10 rfl) (by decide) ?_
    rw [show fstN (fun k => decide (G.B k = i)) G.n = fsM G i from rfl]
    refine r_aload_n (pc := 18) (i := 0) (tX11_lumpedTime.at 11 rfl) rfl rfl ?_
    refine r_aload_n (pc := 19) (i := 0) (tX11_lumpedTime.at 12 rfl) rfl rfl ?_
    refine r_iload (pc := 20) (i := 4) (tX11_lumpedTime.at 13 rfl) rfl ?_
    refine r_callV (M' := mX11_reachedFrom) (pc := 22) (tX11_lumpedTime.at 14 rfl) ml_X11_249 rfl mw_X11_reachedFrom ⟨by decide, by decide⟩ (mH_0) rfl rfl (c_mReach g1 l1 h6 (by omega) hr.2.1.w9) rfl rfl (Nat.le_of_ble_eq_true rfl) (Nat.le_of_ble_eq_true rfl) (Nat.le_of_ble_eq_true rfl) ?_
    rintro _ _ _ ⟨rfl, rfl, rfl⟩
    refine r_aload_n (pc := 25) (i := 0) (tX11_lumpedTime.at 15 rfl) rfl rfl ?_
    refine r_iload_n (pc := 26) (i := 2) (tX11_lumpedTime.at 16 rfl) rfl rfl ?_
    refine r_callV (M' := mX11_setOf) (pc := 27) (tX11_lumpedTime.at 17 rfl) ml_X11_323 rfl mw_X11_setOf ⟨by decide, by decide⟩ (mH_0) rfl rfl (c_mSetOf g1 h6 hB (show j ≤ 6 by omega)) rfl rfl (Nat.le_of_ble_eq_true rfl) (Nat.le_of_ble_eq_true rfl) (Nat.le_of_ble_eq_true rfl) ?_
    rintro _ _ _ ⟨rfl, rfl, rfl⟩
    refine r_iand (pc := 30) (tX11_lumpedTime.at 18 rfl) ?_
    rw [bs_and _ hR _ hT]
    have hlt : rcm G.W G.n (fsM G i) &&& stM G.B j G.n < 64 := and_lt hR
    by_cases cr : rcm G.W G.n (fsM G i) &&& stM G.B j G.n = 0
    · rw [if_neg (by simp [cr])] at ht
      refine r_if_eqN (pc := 31) 38 (tX11_lumpedTime.at 19 rfl) (by decide) (by omega) (fun _ => ?_) (fun c => by omega)
      refine r_iconst (pc := 38) (w := nI (Bool.toNat false)) (tX11_lumpedTime.at 22 rfl) (by decide) ?_
      refine r_iconst (pc := 39) (w := nI 2) (tX11_lumpedTime.at 23 rfl) (by decide) ?_
      refine r_callV (M' := mX11_right) (pc := 40) (tX11_lumpedTime.at 24 rfl) ml_X11_190 rfl mw_X11_right ⟨by decide, by decide⟩ (mH_0) rfl rfl (c_mRight (S := S1) (by omega) (by omega)) rfl rfl (Nat.le_of_ble_eq_true rfl) (Nat.le_of_ble_eq_true rfl) (Nat.le_of_ble_eq_true rfl) ?_
      rintro _ _ _ ⟨rfl, rfl, rfl⟩
      rw [rgtF t1, thrN_eq (show (S1.s_thr 2).thr ≠ 0 from by show (2 : Nat) ≠ 0; omega), Bool.toNat_false]
      refine r_if_neN (pc := 43) 48 (tX11_lumpedTime.at 25 rfl) (by decide) (by omega) (fun c => by omega) (fun _ => ?_)
      refine r_lconst (pc := 46) (w := lI 0) (tX11_lumpedTime.at 26 rfl) (by decide) ?_
      refine r_lret (pc := 47) (tX11_lumpedTime.at 27 rfl) rfl (Nat.le_of_ble_eq_true rfl) (Nat.le_of_ble_eq_true rfl) ?_
      subst hPo
      exact ⟨by rw [lT, if_neg (by omega)]; rfl, rfl, _, rfl, per.trans p1 (per0 S1 2), ht⟩
    · rw [if_pos cr] at ht
      have ok := ok ht.symm
      refine r_if_eqN (pc := 31) 38 (tX11_lumpedTime.at 19 rfl) (by decide) (by omega) (fun c => by omega) (fun _ => ?_)
      refine r_iconst (pc := 34) (w := nI (Bool.toNat true)) (tX11_lumpedTime.at 20 rfl) (by decide) ?_
      refine r_goto (pc := 35) 39 (tX11_lumpedTime.at 21 rfl) (by decide) ?_
      refine r_iconst (pc := 39) (w := nI 2) (tX11_lumpedTime.at 23 rfl) (by decide) ?_
      refine r_callV (M' := mX11_right) (pc := 40) (tX11_lumpedTime.at 24 rfl) ml_X11_190 rfl mw_X11_right ⟨by decide, by decide⟩ (mH_0) rfl rfl (c_mRight (S := S1) (by omega) (by omega)) rfl rfl (Nat.le_of_ble_eq_true rfl) (Nat.le_of_ble_eq_true rfl) (Nat.le_of_ble_eq_true rfl) ?_
      rintro _ _ _ ⟨rfl, rfl, rfl⟩
      rw [rgtT t1, thr0_eq t1, Bool.toNat_true]
      refine r_if_neN (pc := 43) 48 (tX11_lumpedTime.at 25 rfl) (by decide) (by omega) (fun _ => ?_) (fun c => by omega)
      refine r_aload_n (pc := 48) (i := 0) (tX11_lumpedTime.at 28 rfl) rfl rfl ?_
      refine r_iload (pc := 49) (i := 4) (tX11_lumpedTime.at 29 rfl) rfl ?_
      refine r_aload_n (pc := 51) (i := 0) (tX11_lumpedTime.at 30 rfl) rfl rfl ?_
      refine r_iload_n (pc := 52) (i := 2) (tX11_lumpedTime.at 31 rfl) rfl rfl ?_
      refine r_callV (M' := mX11_setOf) (pc := 53) (tX11_lumpedTime.at 32 rfl) ml_X11_323 rfl mw_X11_setOf ⟨by decide, by decide⟩ (mH_0) rfl rfl (c_mSetOf g1 h6 hB (show j ≤ 6 by omega)) rfl rfl (Nat.le_of_ble_eq_true rfl) (Nat.le_of_ble_eq_true rfl) (Nat.le_of_ble_eq_true rfl) ?_
      rintro _ _ _ ⟨rfl, rfl, rfl⟩
      refine r_iconst (pc := 56) (w := nI 0) (tX11_lumpedTime.at 33 rfl) (by decide) ?_
      refine r_callV (M' := mX11_meanTo) (pc := 57) (tX11_lumpedTime.at 34 rfl) ml_X11_290 rfl mw_X11_meanTo ⟨by decide, by decide⟩ (mH_0) rfl rfl ((c_mMean (p := 0) g1 l1 h6 hr.2.1.w9 f1 hT (by omega) (fun k hk => stG_gn) ok)) rfl rfl (Nat.le_of_ble_eq_true rfl) (Nat.le_of_ble_eq_true rfl) (Nat.le_of_ble_eq_true rfl) ?_
      rintro _ _ _ ⟨rfl, rfl, S2, rfl, p2, a2, b2⟩
      refine r_aload_n (pc := 60) (i := 0) (tX11_lumpedTime.at 35 rfl) rfl rfl ?_
      refine r_iload_n (pc := 61) (i := 3) (tX11_lumpedTime.at 36 rfl) rfl rfl ?_
      refine r_callV (M' := mX11_told) (pc := 62) (tX11_lumpedTime.at 37 rfl) ml_X11_283 rfl mw_X11_told ⟨by decide, by decide⟩ (mH_0) rfl rfl (c_mTold hp) rfl rfl (Nat.le_of_ble_eq_true rfl) (Nat.le_of_ble_eq_true rfl) (Nat.le_of_ble_eq_true rfl) ?_
      rintro _ _ _ ⟨rfl, rfl, rfl⟩
      rw [a2, b2]
      refine r_lret (pc := 65) (tX11_lumpedTime.at 38 rfl) rfl (Nat.le_of_ble_eq_true rfl) (Nat.le_of_ble_eq_true rfl) ?_
      subst hPo
      exact ⟨by rw [lT, if_pos ht.symm]; rfl, rfl, S2, rfl, per.trans p1 p2.1, by rw [p2.2.1, t1, ht]⟩
  · rw [ltT, if_neg c] at ht
    rw [decide_eq_false c, Bool.toNat_false]
    refine r_if_neN (pc := 6) 11 (tX11_lumpedTime.at 4 rfl) (by decide) (by omega) (fun c => by omega) (fun _ => ?_)
    refine r_lconst (pc := 9) (w := lI 0) (tX11_lumpedTime.at 5 rfl) (by decide) ?_
    refine r_lret (pc := 10) (tX11_lumpedTime.at 6 rfl) rfl (Nat.le_of_ble_eq_true rfl) (Nat.le_of_ble_eq_true rfl) ?_
    subst hPo
    exact ⟨by rw [lT, if_neg (by omega)]; rfl, rfl, S1, rfl, p1, by rw [t1, ht]⟩
theorem c_mCks (hr : RW S G cn cc) (ok : G.n ≠ 0 → okTr G.W G.n) : Cal v mX11_checksum 6 0 0 [.ref m] (mH v h m S) top (pA v h m S top (.long (lI (31 * ck2 G G.n + trD G.W G.n))) 0) noX := by
  have h6 := hr.2.1.1.1
  have h15 := hr.2.1.1.2.1
  have ha := hr.2.1.1.2.2.1
  have hr0 := (per0 S 0).RW hr
  have g0 := hr0.1
  refine Cal.ofJ (by decide +kernel) rfl (Nat.le_of_ble_eq_true rfl) fun hz0 => ?_
  refine r_ls [some (.ref m), none, none, none, none] rfl ?_
  generalize hPo : pA v h m S top (.long (lI (31 * ck2 G G.n + trD G.W G.n))) 0 = Po
  refine r_aload_n (pc := 0) (i := 0) (tX11_checksum.at 0 rfl) rfl rfl ?_
  refine r_iconst (pc := 1) (w := nI 0) (tX11_checksum.at 1 rfl) (by decide) ?_
  refine r_put (pc := 2) (tX11_checksum.at 2 rfl) pf_X11_55 (mH_0) (Nat.le_of_ble_eq_true rfl) (rfl) (rfl) ?_
  refine r_eq (h2 := mH v h m (S.s_thr 0)) (mH_p0 (S' := S.s_thr 0) rfl) rfl ?_
  refine r_ldc2 (pc := 5) (tX11_checksum.at 3 rfl) lcL_X11_345 ?_
  refine r_aload_n (pc := 8) (i := 0) (tX11_checksum.at 4 rfl) rfl rfl ?_
  refine r_callV (M' := mX11_count) (pc := 9) (tX11_checksum.at 5 rfl) ml_X11_218 rfl mw_X11_count ⟨by decide, by decide⟩ (mH_0) rfl rfl (c_mCount g0.1) rfl rfl (Nat.le_of_ble_eq_true rfl) (Nat.le_of_ble_eq_true rfl) (Nat.le_of_ble_eq_true rfl) ?_
  rintro _ _ _ ⟨rfl, rfl, rfl⟩
  rw [g0.2.1]
  first | refine r_i2lN (pc := 12) (tX11_checksum.at 6 rfl) (by omega) ?_ | refine r_i2lZ (pc := 12) (tX11_checksum.at 6 rfl) ⟨by omega, by omega⟩ ?_ | refine r_i2l (pc := 12) (tX11_checksum.at 6 rfl) ?_
  first | refine r_lmulL (pc := 13) (tX11_checksum.at 7 rfl) ?_ | refine r_lmul (pc := 13) (tX11_checksum.at 7 rfl) ?_
  refine r_aload_n (pc := 14) (i := 0) (tX11_checksum.at 8 rfl) rfl rfl ?_
  refine r_iconst (pc := 15) (w := nI 2) (tX11_checksum.at 9 rfl) (by decide) ?_
  refine r_callV (M' := mX11_get) (pc := 16) (tX11_checksum.at 10 rfl) ml_X11_61 rfl mw_X11_get ⟨by decide, by decide⟩ (mH_0) rfl rfl (c_mGet (k := 2) g0.1 (by omega)) rfl rfl (Nat.le_of_ble_eq_true rfl) (Nat.le_of_ble_eq_true rfl) (Nat.le_of_ble_eq_true rfl) ?_
  rintro _ _ _ ⟨rfl, rfl, rfl⟩
  rw [g0.2.2.2.1]
  first | refine r_i2lN (pc := 19) (tX11_checksum.at 11 rfl) (by omega) ?_ | refine r_i2lZ (pc := 19) (tX11_checksum.at 11 rfl) ⟨by omega, by omega⟩ ?_ | refine r_i2l (pc := 19) (tX11_checksum.at 11 rfl) ?_
  first | refine r_laddL (pc := 20) (tX11_checksum.at 12 rfl) ?_ | refine r_ladd (pc := 20) (tX11_checksum.at 12 rfl) ?_
  refine r_lstore_n (pc := 21) (i := 1) (tX11_checksum.at 13 rfl) rfl (by decide) ?_
  refine r_iconst (pc := 22) (w := nI 0) (tX11_checksum.at 14 rfl) (by decide) ?_
  refine r_istore_n (pc := 23) (i := 3) (tX11_checksum.at 15 rfl) rfl (by decide) ?_
  have k2 : ∀ k u o4, u + k = G.n → J v mX11_checksum (rmOf 6 0 0) (KM v Po noX 0 0) top 0 0 (mH v h m (S.s_thr 0)) top 76 [some (.ref m), some (.long (lI (ck2 G u))), none, some (.int (nI u)), o4] [] := by
    intro k
    induction k with
    | zero =>
      intro u o4 hu
      have hu : u = G.n := by omega
      subst hu
      refine r_iload_n (pc := 76) (i := 3) (tX11_checksum.at 47 rfl) rfl rfl ?_
      refine r_aload_n (pc := 77) (i := 0) (tX11_checksum.at 48 rfl) rfl rfl ?_
      refine r_callV (M' := mX11_count) (pc := 78) (tX11_checksum.at 49 rfl) ml_X11_218 rfl mw_X11_count ⟨by decide, by decide⟩ (mH_0) rfl rfl (c_mCount g0.1) rfl rfl (Nat.le_of_ble_eq_true rfl) (Nat.le_of_ble_eq_true rfl) (Nat.le_of_ble_eq_true rfl) ?_
      rintro _ _ _ ⟨rfl, rfl, rfl⟩
      rw [g0.2.1]
      refine r_icmp_geN (pc := 81) 106 (tX11_checksum.at 50 rfl) (by decide) (by omega) (by omega) (fun _ => ?_) (fun c => by omega)
      refine r_ldc2 (pc := 106) (tX11_checksum.at 64 rfl) lcL_X11_345 ?_
      refine r_lload_n (pc := 109) (i := 1) (tX11_checksum.at 65 rfl) rfl rfl ?_
      first | refine r_lmulL (pc := 110) (tX11_checksum.at 66 rfl) ?_ | refine r_lmul (pc := 110) (tX11_checksum.at 66 rfl) ?_
      refine r_aload_n (pc := 111) (i := 0) (tX11_checksum.at 67 rfl) rfl rfl ?_
      refine r_callV (M' := mX11_treesNow) (pc := 112) (tX11_checksum.at 68 rfl) ml_X11_297 rfl mw_X11_treesNow ⟨by decide, by decide⟩ (mH_0) rfl rfl ((c_mTrees0 hr0 ok)) rfl rfl (Nat.le_of_ble_eq_true rfl) (Nat.le_of_ble_eq_true rfl) (Nat.le_of_ble_eq_true rfl) ?_
      rintro _ _ _ ⟨rfl, rfl, S1, rfl, p1, t1⟩
      first | refine r_laddL (pc := 115) (tX11_checksum.at 69 rfl) ?_ | refine r_ladd (pc := 115) (tX11_checksum.at 69 rfl) ?_
      refine r_lret (pc := 116) (tX11_checksum.at 70 rfl) rfl (Nat.le_of_ble_eq_true rfl) (Nat.le_of_ble_eq_true rfl) ?_
      subst hPo
      exact ⟨rfl, rfl, S1, rfl, per.trans (per0 S 0) p1, t1⟩
    | succ k ih =>
      intro u o4 hu
      have hBu := hr.2.1.1.2.2.2.1 u (by omega)
      refine r_iload_n (pc := 76) (i := 3) (tX11_checksum.at 47 rfl) rfl rfl ?_
      refine r_aload_n (pc := 77) (i := 0) (tX11_checksum.at 48 rfl) rfl rfl ?_
      refine r_callV (M' := mX11_count) (pc := 78) (tX11_checksum.at 49 rfl) ml_X11_218 rfl mw_X11_count ⟨by decide, by decide⟩ (mH_0) rfl rfl (c_mCount g0.1) rfl rfl (Nat.le_of_ble_eq_true rfl) (Nat.le_of_ble_eq_true rfl) (Nat.le_of_ble_eq_true rfl) ?_
      rintro _ _ _ ⟨rfl, rfl, rfl⟩
      rw [g0.2.1]
      refine r_icmp_geN (pc := 81) 106 (tX11_checksum.at 50 rfl) (by decide) (by omega) (by omega) (fun c => by omega) (fun _ => ?_)
      refine r_ldc2 (pc := 84) (tX11_checksum.at 51 rfl) lcL_X11_345 ?_
      refine r_lload_n (pc := 87) (i := 1) (tX11_checksum.at 52 rfl) rfl rfl ?_
      first | refine r_lmulL (pc := 88) (tX11_checksum.at 53 rfl) ?_ | refine r_lmul (pc := 88) (tX11_checksum.at 53 rfl) ?_
      refine r_aload_n (pc := 89) (i := 0) (tX11_checksum.at 54 rfl) rfl rfl ?_
      refine r_bipush (pc := 90) (w := nI 49) (tX11_checksum.at 55 rfl) (by decide) ?_
      refine r_iload_n (pc := 92) (i := 3) (tX11_checksum.at 56 rfl) rfl rfl ?_
      first | refine r_iaddN (pc := 93) (tX11_checksum.at 57 rfl) ?_ | refine r_iaddZ (pc := 93) (tX11_checksum.at 57 rfl) ?_ | refine r_iadd (pc := 93) (tX11_checksum.at 57 rfl) ?_
      refine r_callV (M' := mX11_get) (pc := 94) (tX11_checksum.at 58 rfl) ml_X11_61 rfl mw_X11_get ⟨by decide, by decide⟩ (mH_0) rfl rfl (c_mGet (k := 49 + u) g0.1 (by omega)) rfl rfl (Nat.le_of_ble_eq_true rfl) (Nat.le_of_ble_eq_true rfl) (Nat.le_of_ble_eq_true rfl) ?_
      rintro _ _ _ ⟨rfl, rfl, rfl⟩
      rw [g0.lab (show u < G.n by omega)]
      first | refine r_i2lN (pc := 97) (tX11_checksum.at 59 rfl) (by omega) ?_ | refine r_i2lZ (pc := 97) (tX11_checksum.at 59 rfl) ⟨by omega, by omega⟩ ?_ | refine r_i2l (pc := 97) (tX11_checksum.at 59 rfl) ?_
      first | refine r_laddL (pc := 98) (tX11_checksum.at 60 rfl) ?_ | refine r_ladd (pc := 98) (tX11_checksum.at 60 rfl) ?_
      refine r_lstore_n (pc := 99) (i := 1) (tX11_checksum.at 61 rfl) rfl (by decide) ?_
      first | refine r_iincN (pc := 100) (tX11_checksum.at 62 rfl) rfl (by decide) ?_ | refine r_iinc (pc := 100) (tX11_checksum.at 62 rfl) rfl rfl (by decide) ?_
      refine r_goto (pc := 103) 76 (tX11_checksum.at 63 rfl) (by decide) ?_
      exact ih (u + 1) _ (by omega)
  have k1 : ∀ k e o4, e + k = G.e → J v mX11_checksum (rmOf 6 0 0) (KM v Po noX 0 0) top 0 0 (mH v h m (S.s_thr 0)) top 24 [some (.ref m), some (.long (lI (ck1 G e))), none, some (.int (nI e)), o4] [] := by
    intro k
    induction k with
    | zero =>
      intro e o4 he
      have he : e = G.e := by omega
      subst he
      refine r_iload_n (pc := 24) (i := 3) (tX11_checksum.at 16 rfl) rfl rfl ?_
      refine r_aload_n (pc := 25) (i := 0) (tX11_checksum.at 17 rfl) rfl rfl ?_
      refine r_iconst (pc := 26) (w := nI 1) (tX11_checksum.at 18 rfl) (by decide) ?_
      refine r_callV (M' := mX11_get) (pc := 27) (tX11_checksum.at 19 rfl) ml_X11_61 rfl mw_X11_get ⟨by decide, by decide⟩ (mH_0) rfl rfl (c_mGet (k := 1) g0.1 (by omega)) rfl rfl (Nat.le_of_ble_eq_true rfl) (Nat.le_of_ble_eq_true rfl) (Nat.le_of_ble_eq_true rfl) ?_
      rintro _ _ _ ⟨rfl, rfl, rfl⟩
      rw [g0.2.2.1]
      refine r_icmp_geN (pc := 30) 74 (tX11_checksum.at 20 rfl) (by decide) (by omega) (by omega) (fun _ => ?_) (fun c => by omega)
      refine r_iconst (pc := 74) (w := nI 0) (tX11_checksum.at 45 rfl) (by decide) ?_
      refine r_istore_n (pc := 75) (i := 3) (tX11_checksum.at 46 rfl) rfl (by decide) ?_
      exact k2 G.n 0 _ (by omega)
    | succ k ih =>
      intro e o4 he
      obtain ⟨w1, w2, w3⟩ := g0.2.2.2.2.1 e (by omega)
      obtain ⟨l1, l2, l3⟩ := hr.2.1.2.1 e (by omega)
      have hw9 := hr.2.1.w9 (G.L e * 6 + G.H e) (by omega)
      refine r_iload_n (pc := 24) (i := 3) (tX11_checksum.at 16 rfl) rfl rfl ?_
      refine r_aload_n (pc := 25) (i := 0) (tX11_checksum.at 17 rfl) rfl rfl ?_
      refine r_iconst (pc := 26) (w := nI 1) (tX11_checksum.at 18 rfl) (by decide) ?_
      refine r_callV (M' := mX11_get) (pc := 27) (tX11_checksum.at 19 rfl) ml_X11_61 rfl mw_X11_get ⟨by decide, by decide⟩ (mH_0) rfl rfl (c_mGet (k := 1) g0.1 (by omega)) rfl rfl (Nat.le_of_ble_eq_true rfl) (Nat.le_of_ble_eq_true rfl) (Nat.le_of_ble_eq_true rfl) ?_
      rintro _ _ _ ⟨rfl, rfl, rfl⟩
      rw [g0.2.2.1]
      refine r_icmp_geN (pc := 30) 74 (tX11_checksum.at 20 rfl) (by decide) (by omega) (by omega) (fun c => by omega) (fun _ => ?_)
      refine r_iconst (pc := 33) (w := nI 0) (tX11_checksum.at 21 rfl) (by decide) ?_
      refine r_istore (pc := 34) (i := 4) (tX11_checksum.at 22 rfl) (by decide) ?_
      refine r_iload (pc := 36) (i := 4) (tX11_checksum.at 23 rfl) rfl ?_
      refine r_iconst (pc := 38) (w := nI 3) (tX11_checksum.at 24 rfl) (by decide) ?_
      refine r_icmp_geN (pc := 39) 68 (tX11_checksum.at 25 rfl) (by decide) (by omega) (by omega) (fun c => by omega) (fun _ => ?_)
      refine r_ldc2 (pc := 42) (tX11_checksum.at 26 rfl) lcL_X11_345 ?_
      refine r_lload_n (pc := 45) (i := 1) (tX11_checksum.at 27 rfl) rfl rfl ?_
      first | refine r_lmulL (pc := 46) (tX11_checksum.at 28 rfl) ?_ | refine r_lmul (pc := 46) (tX11_checksum.at 28 rfl) ?_
      refine r_aload_n (pc := 47) (i := 0) (tX11_checksum.at 29 rfl) rfl rfl ?_
      refine r_iconst (pc := 48) (w := nI 4) (tX11_checksum.at 30 rfl) (by decide) ?_
      refine r_iconst (pc := 49) (w := nI 3) (tX11_checksum.at 31 rfl) (by decide) ?_
      refine r_iload_n (pc := 50) (i := 3) (tX11_checksum.at 32 rfl) rfl rfl ?_
      first | refine r_imulN (pc := 51) (tX11_checksum.at 33 rfl) ?_ | refine r_imulZ (pc := 51) (tX11_checksum.at 33 rfl) ?_ | refine r_imul (pc := 51) (tX11_checksum.at 33 rfl) ?_
      first | refine r_iaddN (pc := 52) (tX11_checksum.at 34 rfl) ?_ | refine r_iaddZ (pc := 52) (tX11_checksum.at 34 rfl) ?_ | refine r_iadd (pc := 52) (tX11_checksum.at 34 rfl) ?_
      refine r_iload (pc := 53) (i := 4) (tX11_checksum.at 35 rfl) rfl ?_
      first | refine r_iaddN (pc := 55) (tX11_checksum.at 36 rfl) ?_ | refine r_iaddZ (pc := 55) (tX11_checksum.at 36 rfl) ?_ | refine r_iadd (pc := 55) (tX11_checksum.at 36 rfl) ?_
      refine r_callV (M' := mX11_get) (pc := 56) (tX11_checksum.at 37 rfl) ml_X11_61 rfl mw_X11_get ⟨by decide, by decide⟩ (mH_0) rfl rfl (c_mGet (k := 4 + 3 * e + 0) g0.1 (by omega)) rfl rfl (Nat.le_of_ble_eq_true rfl) (Nat.le_of_ble_eq_true rfl) (Nat.le_of_ble_eq_true rfl) ?_
      rintro _ _ _ ⟨rfl, rfl, rfl⟩
      rw [show (S.s_thr 0).rw (4 + 3 * e + 0) = G.L e from w1]
      first | refine r_i2lN (pc := 59) (tX11_checksum.at 38 rfl) (by omega) ?_ | refine r_i2lZ (pc := 59) (tX11_checksum.at 38 rfl) ⟨by omega, by omega⟩ ?_ | refine r_i2l (pc := 59) (tX11_checksum.at 38 rfl) ?_
      first | refine r_laddL (pc := 60) (tX11_checksum.at 39 rfl) ?_ | refine r_ladd (pc := 60) (tX11_checksum.at 39 rfl) ?_
      refine r_lstore_n (pc := 61) (i := 1) (tX11_checksum.at 40 rfl) rfl (by decide) ?_
      first | refine r_iincN (pc := 62) (tX11_checksum.at 41 rfl) rfl (by decide) ?_ | refine r_iinc (pc := 62) (tX11_checksum.at 41 rfl) rfl rfl (by decide) ?_
      refine r_goto (pc := 65) 36 (tX11_checksum.at 42 rfl) (by decide) ?_
      refine r_iload (pc := 36) (i := 4) (tX11_checksum.at 23 rfl) rfl ?_
      refine r_iconst (pc := 38) (w := nI 3) (tX11_checksum.at 24 rfl) (by decide) ?_
      refine r_icmp_geN (pc := 39) 68 (tX11_checksum.at 25 rfl) (by decide) (by omega) (by omega) (fun c => by omega) (fun _ => ?_)
      refine r_ldc2 (pc := 42) (tX11_checksum.at 26 rfl) lcL_X11_345 ?_
      refine r_lload_n (pc := 45) (i := 1) (tX11_checksum.at 27 rfl) rfl rfl ?_
      first | refine r_lmulL (pc := 46) (tX11_checksum.at 28 rfl) ?_ | refine r_lmul (pc := 46) (tX11_checksum.at 28 rfl) ?_
      refine r_aload_n (pc := 47) (i := 0) (tX11_checksum.at 29 rfl) rfl rfl ?_
      refine r_iconst (pc := 48) (w := nI 4) (tX11_checksum.at 30 rfl) (by decide) ?_
      refine r_iconst (pc := 49) (w := nI 3) (tX11_checksum.at 31 rfl) (by decide) ?_
      refine r_iload_n (pc := 50) (i := 3) (tX11_checksum.at 32 rfl) rfl rfl ?_
      first | refine r_imulN (pc := 51) (tX11_checksum.at 33 rfl) ?_ | refine r_imulZ (pc := 51) (tX11_checksum.at 33 rfl) ?_ | refine r_imul (pc := 51) (tX11_checksum.at 33 rfl) ?_
      first | refine r_iaddN (pc := 52) (tX11_checksum.at 34 rfl) ?_ | refine r_iaddZ (pc := 52) (tX11_checksum.at 34 rfl) ?_ | refine r_iadd (pc := 52) (tX11_checksum.at 34 rfl) ?_
      refine r_iload (pc := 53) (i := 4) (tX11_checksum.at 35 rfl) rfl ?_
      first | refine r_iaddN (pc := 55) (tX11_checksum.at 36 rfl) ?_ | refine r_iaddZ (pc := 55) (tX11_checksum.at 36 rfl) ?_ | refine r_iadd (pc := 55) (tX11_checksum.at 36 rfl) ?_
      refine r_callV (M' := mX11_get) (pc := 56) (tX11_checksum.at 37 rfl) ml_X11_61 rfl mw_X11_get ⟨by decide, by decide⟩ (mH_0) rfl rfl (c_mGet (k := 4 + 3 * e + 1) g0.1 (by omega)) rfl rfl (Nat.le_of_ble_eq_true rfl) (Nat.le_of_ble_eq_true rfl) (Nat.le_of_ble_eq_true rfl) ?_
      rintro _ _ _ ⟨rfl, rfl, rfl⟩
      rw [w2]
      first | refine r_i2lN (pc := 59) (tX11_checksum.at 38 rfl) (by omega) ?_ | refine r_i2lZ (pc := 59) (tX11_checksum.at 38 rfl) ⟨by omega, by omega⟩ ?_ | refine r_i2l (pc := 59) (tX11_checksum.at 38 rfl) ?_
      first | refine r_laddL (pc := 60) (tX11_checksum.at 39 rfl) ?_ | refine r_ladd (pc := 60) (tX11_checksum.at 39 rfl) ?_
      refine r_lstore_n (pc := 61) (i := 1) (tX11_checksum.at 40 rfl) rfl (by decide) ?_
      first | refine r_iincN (pc := 62) (tX11_checksum.at 41 rfl) rfl (by decide) ?_ | refine r_iinc (pc := 62) (tX11_checksum.at 41 rfl) rfl rfl (by decide) ?_
      refine r_goto (pc := 65) 36 (tX11_checksum.at 42 rfl) (by decide) ?_
      refine r_iload (pc := 36) (i := 4) (tX11_checksum.at 23 rfl) rfl ?_
      refine r_iconst (pc := 38) (w := nI 3) (tX11_checksum.at 24 rfl) (by decide) ?_
      refine r_icmp_geN (pc := 39) 68 (tX11_checksum.at 25 rfl) (by decide) (by omega) (by omega) (fun c => by omega) (fun _ => ?_)
      refine r_ldc2 (pc := 42) (tX11_checksum.at 26 rfl) lcL_X11_345 ?_
      refine r_lload_n (pc := 45) (i := 1) (tX11_checksum.at 27 rfl) rfl rfl ?_
      first | refine r_lmulL (pc := 46) (tX11_checksum.at 28 rfl) ?_ | refine r_lmul (pc := 46) (tX11_checksum.at 28 rfl) ?_
      refine r_aload_n (pc := 47) (i := 0) (tX11_checksum.at 29 rfl) rfl rfl ?_
      refine r_iconst (pc := 48) (w := nI 4) (tX11_checksum.at 30 rfl) (by decide) ?_
      refine r_iconst (pc := 49) (w := nI 3) (tX11_checksum.at 31 rfl) (by decide) ?_
      refine r_iload_n (pc := 50) (i := 3) (tX11_checksum.at 32 rfl) rfl rfl ?_
      first | refine r_imulN (pc := 51) (tX11_checksum.at 33 rfl) ?_ | refine r_imulZ (pc := 51) (tX11_checksum.at 33 rfl) ?_ | refine r_imul (pc := 51) (tX11_checksum.at 33 rfl) ?_
      first | refine r_iaddN (pc := 52) (tX11_checksum.at 34 rfl) ?_ | refine r_iaddZ (pc := 52) (tX11_checksum.at 34 rfl) ?_ | refine r_iadd (pc := 52) (tX11_checksum.at 34 rfl) ?_
      refine r_iload (pc := 53) (i := 4) (tX11_checksum.at 35 rfl) rfl ?_
      first | refine r_iaddN (pc := 55) (tX11_checksum.at 36 rfl) ?_ | refine r_iaddZ (pc := 55) (tX11_checksum.at 36 rfl) ?_ | refine r_iadd (pc := 55) (tX11_checksum.at 36 rfl) ?_
      refine r_callV (M' := mX11_get) (pc := 56) (tX11_checksum.at 37 rfl) ml_X11_61 rfl mw_X11_get ⟨by decide, by decide⟩ (mH_0) rfl rfl (c_mGet (k := 4 + 3 * e + 2) g0.1 (by omega)) rfl rfl (Nat.le_of_ble_eq_true rfl) (Nat.le_of_ble_eq_true rfl) (Nat.le_of_ble_eq_true rfl) ?_
      rintro _ _ _ ⟨rfl, rfl, rfl⟩
      rw [w3]
      first | refine r_i2lN (pc := 59) (tX11_checksum.at 38 rfl) (by omega) ?_ | refine r_i2lZ (pc := 59) (tX11_checksum.at 38 rfl) ⟨by omega, by omega⟩ ?_ | refine r_i2l (pc := 59) (tX11_checksum.at 38 rfl) ?_
      first | refine r_laddL (pc := 60) (tX11_checksum.at 39 rfl) ?_ | refine r_ladd (pc := 60) (tX11_checksum.at 39 rfl) ?_
      refine r_lstore_n (pc := 61) (i := 1) (tX11_checksum.at 40 rfl) rfl (by decide) ?_
      first | refine r_iincN (pc := 62) (tX11_checksum.at 41 rfl) rfl (by decide) ?_ | refine r_iinc (pc := 62) (tX11_checksum.at 41 rfl) rfl rfl (by decide) ?_
      refine r_goto (pc := 65) 36 (tX11_checksum.at 42 rfl) (by decide) ?_
      refine r_iload (pc := 36) (i := 4) (tX11_checksum.at 23 rfl) rfl ?_
      refine r_iconst (pc := 38) (w := nI 3) (tX11_checksum.at 24 rfl) (by decide) ?_
      refine r_icmp_geN (pc := 39) 68 (tX11_checksum.at 25 rfl) (by decide) (by omega) (by omega) (fun _ => ?_) (fun c => by omega)
      first | refine r_iincN (pc := 68) (tX11_checksum.at 43 rfl) rfl (by decide) ?_ | refine r_iinc (pc := 68) (tX11_checksum.at 43 rfl) rfl rfl (by decide) ?_
      refine r_goto (pc := 71) 24 (tX11_checksum.at 44 rfl) (by decide) ?_
      exact ih (e + 1) _ (by omega)
  exact k1 G.e 0 _ (by omega)
end

