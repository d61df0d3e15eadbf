/-! ===== the reference: walks ===== -/
theorem degN_s {W : Nat → Nat} {x u : Nat} : degN W x (u + 1) = degN W x u + W (x * 6 + u) := rfl
theorem degN_mono {W : Nat → Nat} {x u : Nat} : ∀ n, u ≤ n → degN W x u ≤ degN W x n
  | 0, h => by rw [show u = 0 by omega]; exact Nat.le_refl _
  | n + 1, h => by
    by_cases c : u = n + 1
    · rw [c]; exact Nat.le_refl _
    · have := degN_mono (W := W) (x := x) (u := u) n (by omega)
      rw [degN_s]
      omega
section
variable {v : Ev} {h : Hp} {top m : Nat} {S : MS} {G : GT} {cn : Nat} {cc : Nat → Int}
theorem c_mWalk {z k s w : Int} (hr : RW S G cn cc) (hz : inI z) (hk : inI k) (hs : inI s) (hw : inI w) : Cal v mX11_walk 6 0 0 [.ref m, .int (zI z), .int (zI k), .int (zI s), .int (zI w)] (mH v h m S) top (pA v h m S top (iT (wkT G z k s w) (zI (tdV (wkS G.W G.n G.a (tbl G cn cc) z.toNat s.toNat k.toNat) w.toNat))) (wkT G z k s w)) noX := by
  have h6 := hr.2.1.1.1
  have ha := hr.2.1.1.2.2.1
  have hW := hr.2.1.w9
  obtain ⟨k1, k2⟩ := hk
  obtain ⟨s1, s2⟩ := hs
  obtain ⟨w1, w2⟩ := hw
  refine Cal.ofJ (by decide +kernel) rfl (Nat.le_of_ble_eq_true rfl) fun hz0 => ?_
  refine r_ls [some (.ref m), some (.int (zI z)), some (.int (zI k)), some (.int (zI s)), some (.int (zI w)), none, none, none, none, none, none, none, none, none, none] rfl ?_
  generalize ht : wkT G z k s w = t at *
  generalize hPo : pA v h m S top (iT t _) t = Po
  have out : ∀ S', per S S' → S'.thr = t → t ≠ 0 → J v mX11_walk (rmOf 6 0 0) (KM v Po noX 0 0) top 0 0 (mH v h m S') top 50 [some (.ref m), some (.int (zI z)), some (.int (zI k)), some (.int (zI s)), some (.int (zI w)), none, none, none, none, none, none, none, none, none, none] [] := by
    intro S' p' t' tn
    refine r_iconst (pc := 50) (w := nI 0) (tX11_walk.at 25 rfl) (by decide) ?_
    refine r_iret (pc := 51) (tX11_walk.at 26 rfl) rfl (Nat.le_of_ble_eq_true rfl) (Nat.le_of_ble_eq_true rfl) ?_
    subst hPo
    exact ⟨by rw [iT, if_neg tn]; rfl, rfl, S', rfl, p', t'⟩
  refine r_aload_n (pc := 0) (i := 0) (tX11_walk.at 0 rfl) rfl rfl ?_
  refine r_iload_n (pc := 1) (i := 1) (tX11_walk.at 1 rfl) rfl rfl ?_
  refine r_callV (M' := mX11_starts) (pc := 2) (tX11_walk.at 2 rfl) ml_X11_274 rfl mw_X11_starts ⟨by decide, by decide⟩ (mH_0) rfl rfl ((c_mStarts hr hz)) rfl rfl (Nat.le_of_ble_eq_true rfl) (Nat.le_of_ble_eq_true rfl) (Nat.le_of_ble_eq_true rfl) ?_
  rintro _ _ _ ⟨rfl, rfl, S1, rfl, p1, t1, l1⟩
  by_cases cz : vtT G z = 0
  · rw [cz] at t1 ⊢
    rw [decide_eq_true rfl, Bool.toNat_true]
    refine r_if_eqN (pc := 5) 50 (tX11_walk.at 3 rfl) (by decide) (by omega) (fun c => by omega) (fun _ => ?_)
    rw [wkT, if_pos cz] at ht
    -- the ranges
    have chk : ∀ b, b = decide ((0 ≤ k ∧ k ≤ 1000) ∧ 0 ≤ s ∧ (0 ≤ w ∧ w ≤ 3)) → J v mX11_walk (rmOf 6 0 0) (KM v Po noX 0 0) top 0 0 (mH v h m S1) top 43 [some (.ref m), some (.int (zI z)), some (.int (zI k)), some (.int (zI s)), some (.int (zI w)), none, none, none, none, none, none, none, none, none, none] [.int (nI (Bool.toNat b)), .ref m] := by
      intro b hbd
      refine r_iconst (pc := 43) (w := nI 2) (tX11_walk.at 22 rfl) (by decide) ?_
      refine r_callV (M' := mX11_right) (pc := 44) (tX11_walk.at 23 rfl) ml_X11_190 rfl mw_X11_right ⟨by decide, by decide⟩ (mH_0) rfl rfl (c_mRight (S := S1) (by omega) (by omega)) rfl rfl (Nat.le_of_ble_eq_true rfl) (Nat.le_of_ble_eq_true rfl) (Nat.le_of_ble_eq_true rfl) ?_
      rintro _ _ _ ⟨rfl, rfl, rfl⟩
      cases b with
      | false =>
        have c := of_decide_eq_false hbd.symm
        rw [if_neg c] at ht
        rw [rgtF t1, thrN_eq (show (S1.s_thr 2).thr ≠ 0 from by show (2 : Nat) ≠ 0; omega), Bool.toNat_false]
        refine r_if_neN (pc := 47) 52 (tX11_walk.at 24 rfl) (by decide) (by omega) (fun c => by omega) (fun _ => ?_)
        exact out _ (per.trans p1 (per0 S1 2)) ht (by omega)
      | true =>
        have c := of_decide_eq_true hbd.symm
        rw [if_pos c] at ht
        rw [rgtT t1, thr0_eq t1, Bool.toNat_true]
        refine r_if_neN (pc := 47) 52 (tX11_walk.at 24 rfl) (by decide) (by omega) (fun _ => ?_) (fun c => by omega)
        obtain ⟨⟨c1, c2⟩, c3, c4, c5⟩ := c
        obtain ⟨i, rfl, hi⟩ := vt_nat cz
        obtain ⟨k, rfl⟩ := Int.eq_ofNat_of_zero_le c1
        obtain ⟨s, rfl⟩ := Int.eq_ofNat_of_zero_le c3
        obtain ⟨w, rfl⟩ := Int.eq_ofNat_of_zero_le c4
        rw [Int.toNat_natCast, Int.toNat_natCast, Int.toNat_natCast, Int.toNat_natCast] at hPo
        rw [zI_nat, zI_nat, zI_nat, zI_nat] at *
        have g1 := p1.rwG hr.1
        have hx := hi
        have hs' : s < 2147483648 := by omega
        have fin : ∀ z, z = tdV (wkS G.W G.n G.a (tbl G cn cc) i s k) w → Po (some (.int (zI z))) (mH v h m S1) top := by
          intro z hz
          subst hPo
          exact ⟨by rw [hz, iT, if_pos ht.symm], rfl, S1, rfl, p1, by rw [t1, ht]⟩
        refine r_iload_n (pc := 52) (i := 3) (tX11_walk.at 27 rfl) rfl rfl ?_
        first | refine r_i2lN (pc := 53) (tX11_walk.at 28 rfl) (by omega) ?_ | refine r_i2lZ (pc := 53) (tX11_walk.at 28 rfl) ⟨by omega, by omega⟩ ?_ | refine r_i2l (pc := 53) (tX11_walk.at 28 rfl) ?_
        refine r_lstore (pc := 54) (i := 5) (tX11_walk.at 29 rfl) (by decide) ?_
        refine r_iload_n (pc := 56) (i := 1) (tX11_walk.at 30 rfl) rfl rfl ?_
        refine r_istore (pc := 57) (i := 7) (tX11_walk.at 31 rfl) (by decide) ?_
        refine r_iconst (pc := 59) (w := nI 1) (tX11_walk.at 32 rfl) (by decide) ?_
        refine r_iload_n (pc := 60) (i := 1) (tX11_walk.at 33 rfl) rfl rfl ?_
        refine r_ishl (pc := 61) (tX11_walk.at 34 rfl) ?_
        rw [bs_one i (by omega)]
        refine r_istore (pc := 62) (i := 8) (tX11_walk.at 35 rfl) (by decide) ?_
        refine r_iconst (pc := 64) (w := nI 0) (tX11_walk.at 36 rfl) (by decide) ?_
        refine r_istore (pc := 65) (i := 9) (tX11_walk.at 37 rfl) (by decide) ?_
        refine r_aload_n (pc := 67) (i := 0) (tX11_walk.at 38 rfl) rfl rfl ?_
        refine r_iconst (pc := 68) (w := nI 2) (tX11_walk.at 39 rfl) (by decide) ?_
        refine r_callV (M' := mX11_get) (pc := 69) (tX11_walk.at 40 rfl) ml_X11_61 rfl mw_X11_get ⟨by decide, by decide⟩ (mH_0) rfl rfl (c_mGet (k := 2) g1.1 (by omega)) rfl rfl (Nat.le_of_ble_eq_true rfl) (Nat.le_of_ble_eq_true rfl) (Nat.le_of_ble_eq_true rfl) ?_
        rintro _ _ _ ⟨rfl, rfl, rfl⟩
        rw [g1.2.2.2.1]
        have hb : Bool.toNat (G.a.testBit i) ≤ 1 := Bool.toNat_le _
        have go : ∀ su, su = (if G.a.testBit i = true then (0 : Int) else -1) → J v mX11_walk (rmOf 6 0 0) (KM v Po noX 0 0) top 0 0 (mH v h m S1) top 84 [some (.ref m), some (.int (nI i)), some (.int (nI k)), some (.int (nI s)), some (.int (nI w)), some (.long (lI s)), none, some (.int (nI i)), some (.int (nI (2 ^ i))), some (.int (nI 0)), none, none, none, none, none] [.int (zI su)] := by
          intro su hsu
          refine r_istore (pc := 84) (i := 10) (tX11_walk.at 47 rfl) (by decide) ?_
          refine r_iconst (pc := 86) (w := nI 1) (tX11_walk.at 48 rfl) (by decide) ?_
          refine r_istore (pc := 87) (i := 11) (tX11_walk.at 49 rfl) (by decide) ?_
          have key : ∀ q j o12 o14, j + q = k → J v mX11_walk (rmOf 6 0 0) (KM v Po noX 0 0) top 0 0 (mH v h m S1) top 89 [some (.ref m), some (.int (nI i)), some (.int (nI k)), some (.int (nI s)), some (.int (nI w)), some (.long (lI ((wkS G.W G.n G.a (tbl G cn cc) i s j).1.1 : Nat))), none, some (.int (nI (wkS G.W G.n G.a (tbl G cn cc) i s j).1.2)), some (.int (nI (wkS G.W G.n G.a (tbl G cn cc) i s j).2.1.1)), some (.int (nI (wkS G.W G.n G.a (tbl G cn cc) i s j).2.1.2)), some (.int (zI (wkS G.W G.n G.a (tbl G cn cc) i s j).2.2)), some (.int (nI (j + 1))), o12, none, o14] [] := by
            intro q
            induction q with
            | zero =>
              intro j o12 o14 hj
              have hj : j = k := by omega
              subst hj
              refine r_iload (pc := 89) (i := 11) (tX11_walk.at 50 rfl) rfl ?_
              refine r_iload_n (pc := 91) (i := 2) (tX11_walk.at 51 rfl) rfl rfl ?_
              refine r_icmp_gtN (pc := 92) 251 (tX11_walk.at 52 rfl) (by decide) (by omega) (by omega) (fun _ => ?_) (fun c => by omega)
              refine r_iload (pc := 251) (i := 4) (tX11_walk.at 138 rfl) rfl ?_
              refine r_if_neN (pc := 253) 261 (tX11_walk.at 139 rfl) (by decide) (by omega) (fun q0 => ?_) (fun q0 => ?_)
              · refine r_iload (pc := 261) (i := 4) (tX11_walk.at 142 rfl) rfl ?_
                refine r_iconst (pc := 263) (w := nI 1) (tX11_walk.at 143 rfl) (by decide) ?_
                refine r_icmp_neN (pc := 264) 272 (tX11_walk.at 144 rfl) (by decide) (by omega) (by omega) (fun q1 => ?_) (fun q1 => ?_)
                · refine r_iload (pc := 272) (i := 4) (tX11_walk.at 147 rfl) rfl ?_
                  refine r_iconst (pc := 274) (w := nI 2) (tX11_walk.at 148 rfl) (by decide) ?_
                  refine r_icmp_neN (pc := 275) 283 (tX11_walk.at 149 rfl) (by decide) (by omega) (by omega) (fun q2 => ?_) (fun q2 => ?_)
                  · refine r_iload (pc := 283) (i := 10) (tX11_walk.at 152 rfl) rfl ?_
                    refine r_iret (pc := 285) (tX11_walk.at 153 rfl) rfl (Nat.le_of_ble_eq_true rfl) (Nat.le_of_ble_eq_true rfl) ?_
                    exact fin _ (by rw [tdV, if_neg q0, if_neg q1, if_neg q2])
                  · refine r_iload (pc := 278) (i := 9) (tX11_walk.at 150 rfl) rfl ?_
                    refine r_goto (pc := 280) 285 (tX11_walk.at 151 rfl) (by decide) ?_
                    refine r_iret (pc := 285) (tX11_walk.at 153 rfl) rfl (Nat.le_of_ble_eq_true rfl) (Nat.le_of_ble_eq_true rfl) ?_
                    rw [← zI_nat]
                    exact fin _ (by rw [tdV, if_neg q0, if_neg q1, if_pos q2])
                · refine r_iload (pc := 267) (i := 8) (tX11_walk.at 145 rfl) rfl ?_
                  refine r_goto (pc := 269) 285 (tX11_walk.at 146 rfl) (by decide) ?_
                  refine r_iret (pc := 285) (tX11_walk.at 153 rfl) rfl (Nat.le_of_ble_eq_true rfl) (Nat.le_of_ble_eq_true rfl) ?_
                  rw [← zI_nat]
                  exact fin _ (by rw [tdV, if_neg q0, if_pos q1])
              · refine r_iload (pc := 256) (i := 7) (tX11_walk.at 140 rfl) rfl ?_
                refine r_goto (pc := 258) 285 (tX11_walk.at 141 rfl) (by decide) ?_
                refine r_iret (pc := 285) (tX11_walk.at 153 rfl) rfl (Nat.le_of_ble_eq_true rfl) (Nat.le_of_ble_eq_true rfl) ?_
                rw [← zI_nat]
                exact fin _ (by rw [tdV, if_pos q0])
            | succ q ih =>
              intro j o12 o14 hj
              obtain ⟨b1, b2, b3, b4, b5⟩ := wkS_b (W := G.W) (ab := G.a) (T := tbl G cn cc) h6 hx hs' j
              have nx := ih (j + 1)
              rw [wkS] at nx
              generalize wkS G.W G.n G.a (tbl G cn cc) i s j = st at b1 b2 b3 b4 b5 nx ⊢
              obtain ⟨⟨dr, pl⟩, ⟨sn, ct⟩, su⟩ := st
              dsimp only at b1 b2 b3 b4 b5
              dsimp only
              have hdg := degN_le (x := pl) h6 (by omega) hW
              -- behind the step
              have tail : ∀ dr2 to ct2 o12 o14, drS G.W G.n dr pl = (dr2, to) → to < G.n → ct2 = ct + tbl G cn cc (pl * 6 + to) → J v mX11_walk (rmOf 6 0 0) (KM v Po noX 0 0) top 0 0 (mH v h m S1) top 208 [some (.ref m), some (.int (nI i)), some (.int (nI k)), some (.int (nI s)), some (.int (nI w)), some (.long (lI (dr2 : Nat))), none, some (.int (nI to)), some (.int (nI sn)), some (.int (nI ct2)), some (.int (zI su)), some (.int (nI (j + 1))), o12, none, o14] [] := by
                intro dr2 to ct2 o12 o14 hD hto hct
                have eN : wkN G.W G.n G.a (tbl G cn cc) ((dr, pl), (sn, ct), su) (j + 1) = ((dr2, to), (sn ||| 2 ^ to, ct2), if su < 0 ∧ G.a.testBit to = true then ((j + 1 : Nat) : Int) else su) := by
                  unfold wkN
                  simp only [hD, hct]
                rw [eN] at nx
                dsimp only at nx
                refine r_iload (pc := 208) (i := 8) (tX11_walk.at 117 rfl) rfl ?_
                refine r_iconst (pc := 210) (w := nI 1) (tX11_walk.at 118 rfl) (by decide) ?_
                refine r_iload (pc := 211) (i := 7) (tX11_walk.at 119 rfl) rfl ?_
                refine r_ishl (pc := 213) (tX11_walk.at 120 rfl) ?_
                rw [bs_one to (by omega)]
                refine r_ior (pc := 214) (tX11_walk.at 121 rfl) ?_
                rw [bs_or _ b3 _ (p2_64 (by omega))]
                refine r_istore (pc := 215) (i := 8) (tX11_walk.at 122 rfl) (by decide) ?_
                refine r_iload (pc := 217) (i := 10) (tX11_walk.at 123 rfl) rfl ?_
                refine r_iconst (pc := 219) (w := zI (-1)) (tX11_walk.at 124 rfl) (by decide) ?_
                have hb2 : Bool.toNat (G.a.testBit to) ≤ 1 := Bool.toNat_le _
                have fin3 : ∀ y : Int, y = (if su < 0 ∧ G.a.testBit to = true then ((j + 1 : Nat) : Int) else su) → J v mX11_walk (rmOf 6 0 0) (KM v Po noX 0 0) top 0 0 (mH v h m S1) top 243 [some (.ref m), some (.int (nI i)), some (.int (nI k)), some (.int (nI s)), some (.int (nI w)), some (.long (lI (dr2 : Nat))), none, some (.int (nI to)), some (.int (nI (sn ||| 2 ^ to))), some (.int (nI ct2)), some (.int (zI su)), some (.int (nI (j + 1))), o12, none, o14] [.int (zI y)] := by
                  intro y hy
                  rw [← hy] at nx
                  refine r_istore (pc := 243) (i := 10) (tX11_walk.at 135 rfl) (by decide) ?_
                  first | refine r_iincN (pc := 245) (tX11_walk.at 136 rfl) rfl (by decide) ?_ | refine r_iinc (pc := 245) (tX11_walk.at 136 rfl) rfl rfl (by decide) ?_
                  refine r_goto (pc := 248) 89 (tX11_walk.at 137 rfl) (by decide) ?_
                  exact nx _ _ (by omega)
                by_cases q1 : su = -1
                · refine r_icmp_neZ (pc := 220) 241 (tX11_walk.at 125 rfl) (by decide) ⟨by omega, by omega⟩ ⟨by omega, by omega⟩ (fun c => by omega) (fun _ => ?_)
                  refine r_aload_n (pc := 223) (i := 0) (tX11_walk.at 126 rfl) rfl rfl ?_
                  refine r_iconst (pc := 224) (w := nI 2) (tX11_walk.at 127 rfl) (by decide) ?_
                  refine r_callV (M' := mX11_get) (pc := 225) (tX11_walk.at 128 rfl) ml_X11_61 rfl mw_X11_get ⟨by decide, by decide⟩ (mH_0) rfl rfl (c_mGet (k := 2) g1.1 (by omega)) rfl rfl (Nat.le_of_ble_eq_true rfl) (Nat.le_of_ble_eq_true rfl) (Nat.le_of_ble_eq_true rfl) ?_
                  rintro _ _ _ ⟨rfl, rfl, rfl⟩
                  rw [g1.2.2.2.1]
                  refine r_iload (pc := 228) (i := 7) (tX11_walk.at 129 rfl) rfl ?_
                  refine r_callS (M' := mX11_has) (pc := 230) (tX11_walk.at 130 rfl) ml_X11_221 rfl mw_X11_has ⟨by decide, by decide⟩ (c_mHas ha (show to < 8 by omega)) rfl rfl (Nat.le_of_ble_eq_true rfl) (Nat.le_of_ble_eq_true rfl) (Nat.le_of_ble_eq_true rfl) ?_
                  rintro _ _ _ ⟨rfl, rfl, rfl⟩
                  refine r_if_eqN (pc := 233) 241 (tX11_walk.at 131 rfl) (by decide) (by omega) (fun q2 => ?_) (fun q2 => ?_)
                  · refine r_iload (pc := 241) (i := 10) (tX11_walk.at 134 rfl) rfl ?_
                    exact fin3 su (by rw [if_neg (by intro z; rw [z.2] at q2; cases q2)])
                  · refine r_iload (pc := 236) (i := 11) (tX11_walk.at 132 rfl) rfl ?_
                    refine r_goto (pc := 238) 243 (tX11_walk.at 133 rfl) (by decide) ?_
                    rw [← zI_nat]
                    exact fin3 _ (by rw [if_pos ⟨by omega, tbT q2⟩])
                · refine r_icmp_neZ (pc := 220) 241 (tX11_walk.at 125 rfl) (by decide) ⟨by omega, by omega⟩ ⟨by omega, by omega⟩ (fun _ => ?_) (fun c => by omega)
                  refine r_iload (pc := 241) (i := 10) (tX11_walk.at 134 rfl) rfl ?_
                  exact fin3 su (by rw [if_neg (by omega)])
              refine r_iload (pc := 89) (i := 11) (tX11_walk.at 50 rfl) rfl ?_
              refine r_iload_n (pc := 91) (i := 2) (tX11_walk.at 51 rfl) rfl rfl ?_
              refine r_icmp_gtN (pc := 92) 251 (tX11_walk.at 52 rfl) (by decide) (by omega) (by omega) (fun c => by omega) (fun _ => ?_)
              refine r_aload_n (pc := 95) (i := 0) (tX11_walk.at 53 rfl) rfl rfl ?_
              refine r_get (pc := 96) (tX11_walk.at 54 rfl) gf_X11_29 (mH_0) rfl ?_
              refine r_iload (pc := 99) (i := 7) (tX11_walk.at 55 rfl) rfl ?_
              refine r_iald (pc := 101) (tX11_walk.at 56 rfl) (mH_dgs) (pl) (rfl) (by omega) (Nat.le_of_ble_eq_true rfl) ?_
              refine r_eq rfl (st2 := [.int (nI (degN G.W pl G.n))]) (by rw [← l1.2 pl (by omega)]; rfl) ?_
              refine r_if_leN (pc := 102) 208 (tX11_walk.at 57 rfl) (by decide) (by omega) (fun q0 => ?_) (fun q0 => ?_)
              · -- no edges
                exact tail dr pl ct _ _ (by rw [drS, if_pos q0]) b2 (by rw [show tbl G cn cc (pl * 6 + pl) = 0 from tbS_dg hr.2.1 (by omega) G.e (Nat.le_refl _)]; omega)
              · have hn1 := nxD_lt dr
                refine r_lload (pc := 105) (i := 5) (tX11_walk.at 58 rfl) rfl ?_
                refine r_ldc2 (pc := 107) (tX11_walk.at 59 rfl) lcL_X11_332 ?_
                first | refine r_lmulL (pc := 110) (tX11_walk.at 60 rfl) ?_ | refine r_lmul (pc := 110) (tX11_walk.at 60 rfl) ?_
                refine r_ldc2 (pc := 111) (tX11_walk.at 61 rfl) lcL_X11_334 ?_
                first | refine r_laddL (pc := 114) (tX11_walk.at 62 rfl) ?_ | refine r_ladd (pc := 114) (tX11_walk.at 62 rfl) ?_
                refine r_ldc2 (pc := 115) (tX11_walk.at 63 rfl) lcL_X11_336 ?_
                refine r_lremL (pc := 118) (tX11_walk.at 64 rfl) ⟨by omega, by omega⟩ ⟨by omega, by omega⟩ (by omega) ?_
                rw [show ((dr : Int) * 1103515245 + 12345).tmod 2147483648 = ((nxD dr : Nat) : Int) from (Int.ofNat_tmod _ _).symm]
                refine r_lstore (pc := 119) (i := 5) (tX11_walk.at 65 rfl) (by decide) ?_
                refine r_lload (pc := 121) (i := 5) (tX11_walk.at 66 rfl) rfl ?_
                refine r_ldc2 (pc := 123) (tX11_walk.at 67 rfl) lcL_X11_338 ?_
                refine r_ldivL (pc := 126) (tX11_walk.at 68 rfl) (⟨by omega, by omega⟩) (⟨by omega, by omega⟩) (by omega) ?_
                rw [show ((nxD dr : Nat) : Int).tdiv 65536 = ((nxD dr / 65536 : Nat) : Int) from (Int.ofNat_tdiv _ _).symm]
                refine r_aload_n (pc := 127) (i := 0) (tX11_walk.at 69 rfl) rfl rfl ?_
                refine r_get (pc := 128) (tX11_walk.at 70 rfl) gf_X11_29 (mH_0) rfl ?_
                refine r_iload (pc := 131) (i := 7) (tX11_walk.at 71 rfl) rfl ?_
                refine r_iald (pc := 133) (tX11_walk.at 72 rfl) (mH_dgs) (pl) (rfl) (by omega) (Nat.le_of_ble_eq_true rfl) ?_
                refine r_eq rfl (st2 := [.int (nI (degN G.W pl G.n)), .long (lI ((nxD dr / 65536 : Nat) : Int))]) (by rw [← l1.2 pl (by omega)]; rfl) ?_
                first | refine r_i2lN (pc := 134) (tX11_walk.at 73 rfl) (by omega) ?_ | refine r_i2lZ (pc := 134) (tX11_walk.at 73 rfl) ⟨by omega, by omega⟩ ?_ | refine r_i2l (pc := 134) (tX11_walk.at 73 rfl) ?_
                refine r_lremL (pc := 135) (tX11_walk.at 74 rfl) (⟨by omega, by omega⟩) (⟨by omega, by omega⟩) (by omega) ?_
                rw [show ((nxD dr / 65536 : Nat) : Int).tmod (degN G.W pl G.n : Nat) = ((nxD dr / 65536 % degN G.W pl G.n : Nat) : Int) from (Int.ofNat_tmod _ _).symm]
                have hdd : nxD dr / 65536 % degN G.W pl G.n < degN G.W pl G.n := Nat.mod_lt _ (by omega)
                have hDr : drS G.W G.n dr pl = (nxD dr, wkF G.W G.n pl (nxD dr / 65536 % degN G.W pl G.n)) := by rw [drS, if_neg (by omega)]
                generalize hdw : nxD dr / 65536 % degN G.W pl G.n = d at hdd hDr ⊢
                refine r_lstore (pc := 136) (i := 12) (tX11_walk.at 75 rfl) (by decide) ?_
                refine r_iconst (pc := 138) (w := nI 0) (tX11_walk.at 76 rfl) (by decide) ?_
                refine r_istore (pc := 139) (i := 14) (tX11_walk.at 77 rfl) (by decide) ?_
                have find : ∀ q u e, u + q = G.n → degN G.W pl u + e = d → (∀ y, y < u → ¬ d < degN G.W pl (y + 1)) → J v mX11_walk (rmOf 6 0 0) (KM v Po noX 0 0) top 0 0 (mH v h m S1) top 141 [some (.ref m), some (.int (nI i)), some (.int (nI k)), some (.int (nI s)), some (.int (nI w)), some (.long (lI (nxD dr : Nat))), none, some (.int (nI pl)), some (.int (nI sn)), some (.int (nI ct)), some (.int (zI su)), some (.int (nI (j + 1))), some (.long (lI (e : Nat))), none, some (.int (nI u))] [] := by
                  intro q
                  induction q with
                  | zero =>
                    intro u e hu he hy
                    have hu : u = G.n := by omega
                    rw [hu] at he
                    omega
                  | succ q ihf =>
                    intro u e hu he hy
                    have hww := hW (pl * 6 + u) (by omega)
                    have htt := tbl_le G cn cc (pl * 6 + u) (by omega)
                    obtain ⟨la, lb⟩ := l1.1 pl u (by omega) (by omega)
                    have es := degN_s (W := G.W) (x := pl) (u := u)
                    refine r_aload_n (pc := 141) (i := 0) (tX11_walk.at 78 rfl) rfl rfl ?_
                    refine r_get (pc := 142) (tX11_walk.at 79 rfl) gf_X11_23 (mH_0) rfl ?_
                    refine r_bipush (pc := 145) (w := nI 6) (tX11_walk.at 80 rfl) (by decide) ?_
                    refine r_iload (pc := 147) (i := 7) (tX11_walk.at 81 rfl) rfl ?_
                    first | refine r_imulN (pc := 149) (tX11_walk.at 82 rfl) ?_ | refine r_imulZ (pc := 149) (tX11_walk.at 82 rfl) ?_ | refine r_imul (pc := 149) (tX11_walk.at 82 rfl) ?_
                    refine r_iload (pc := 150) (i := 14) (tX11_walk.at 83 rfl) rfl ?_
                    first | refine r_iaddN (pc := 152) (tX11_walk.at 84 rfl) ?_ | refine r_iaddZ (pc := 152) (tX11_walk.at 84 rfl) ?_ | refine r_iadd (pc := 152) (tX11_walk.at 84 rfl) ?_
                    refine r_iald (pc := 153) (tX11_walk.at 85 rfl) (mH_wts) (6 * pl + u) (rfl) (by omega) (Nat.le_of_ble_eq_true rfl) ?_
                    refine r_eq rfl (st2 := [.int (nI (G.W (pl * 6 + u)))]) (by rw [← la]; rfl) ?_
                    first | refine r_i2lN (pc := 154) (tX11_walk.at 86 rfl) (by omega) ?_ | refine r_i2lZ (pc := 154) (tX11_walk.at 86 rfl) ⟨by omega, by omega⟩ ?_ | refine r_i2l (pc := 154) (tX11_walk.at 86 rfl) ?_
                    refine r_lload (pc := 155) (i := 12) (tX11_walk.at 87 rfl) rfl ?_
                    refine r_lc_gt (pc := 157) 186 (tX11_walk.at 88 rfl) (tX11_walk.at 89 rfl) (by decide) (⟨by omega, by omega⟩) (⟨by omega, by omega⟩) (fun c3 => ?_) (fun c3 => ?_)
                    · have hF : wkF G.W G.n pl d = u := fstN_is (show u ≤ G.n by omega) (fun y hy2 => by simpa using hy y hy2) (Or.inr (by simp; omega))
                      refine r_iload (pc := 186) (i := 9) (tX11_walk.at 104 rfl) rfl ?_
                      refine r_aload_n (pc := 188) (i := 0) (tX11_walk.at 105 rfl) rfl rfl ?_
                      refine r_get (pc := 189) (tX11_walk.at 106 rfl) gf_X11_26 (mH_0) rfl ?_
                      refine r_bipush (pc := 192) (w := nI 6) (tX11_walk.at 107 rfl) (by decide) ?_
                      refine r_iload (pc := 194) (i := 7) (tX11_walk.at 108 rfl) rfl ?_
                      first | refine r_imulN (pc := 196) (tX11_walk.at 109 rfl) ?_ | refine r_imulZ (pc := 196) (tX11_walk.at 109 rfl) ?_ | refine r_imul (pc := 196) (tX11_walk.at 109 rfl) ?_
                      refine r_iload (pc := 197) (i := 14) (tX11_walk.at 110 rfl) rfl ?_
                      first | refine r_iaddN (pc := 199) (tX11_walk.at 111 rfl) ?_ | refine r_iaddZ (pc := 199) (tX11_walk.at 111 rfl) ?_ | refine r_iadd (pc := 199) (tX11_walk.at 111 rfl) ?_
                      refine r_iald (pc := 200) (tX11_walk.at 112 rfl) (mH_cst) (6 * pl + u) (rfl) (by omega) (Nat.le_of_ble_eq_true rfl) ?_
                      refine r_eq rfl (st2 := [.int (nI (tbl G cn cc (pl * 6 + u))), .int (nI ct)]) (by rw [← lb]; rfl) ?_
                      first | refine r_iaddN (pc := 201) (tX11_walk.at 113 rfl) ?_ | refine r_iaddZ (pc := 201) (tX11_walk.at 113 rfl) ?_ | refine r_iadd (pc := 201) (tX11_walk.at 113 rfl) ?_
                      refine r_istore (pc := 202) (i := 9) (tX11_walk.at 114 rfl) (by decide) ?_
                      refine r_iload (pc := 204) (i := 14) (tX11_walk.at 115 rfl) rfl ?_
                      refine r_istore (pc := 206) (i := 7) (tX11_walk.at 116 rfl) (by decide) ?_
                      exact tail (nxD dr) u _ _ _ (by rw [hDr, hF]) (by omega) rfl
                    · refine r_lload (pc := 161) (i := 12) (tX11_walk.at 90 rfl) rfl ?_
                      refine r_aload_n (pc := 163) (i := 0) (tX11_walk.at 91 rfl) rfl rfl ?_
                      refine r_get (pc := 164) (tX11_walk.at 92 rfl) gf_X11_23 (mH_0) rfl ?_
                      refine r_bipush (pc := 167) (w := nI 6) (tX11_walk.at 93 rfl) (by decide) ?_
                      refine r_iload (pc := 169) (i := 7) (tX11_walk.at 94 rfl) rfl ?_
                      first | refine r_imulN (pc := 171) (tX11_walk.at 95 rfl) ?_ | refine r_imulZ (pc := 171) (tX11_walk.at 95 rfl) ?_ | refine r_imul (pc := 171) (tX11_walk.at 95 rfl) ?_
                      refine r_iload (pc := 172) (i := 14) (tX11_walk.at 96 rfl) rfl ?_
                      first | refine r_iaddN (pc := 174) (tX11_walk.at 97 rfl) ?_ | refine r_iaddZ (pc := 174) (tX11_walk.at 97 rfl) ?_ | refine r_iadd (pc := 174) (tX11_walk.at 97 rfl) ?_
                      refine r_iald (pc := 175) (tX11_walk.at 98 rfl) (mH_wts) (6 * pl + u) (rfl) (by omega) (Nat.le_of_ble_eq_true rfl) ?_
                      refine r_eq rfl (st2 := [.int (nI (G.W (pl * 6 + u))), .long (lI (e : Nat))]) (by rw [← la]; rfl) ?_
                      first | refine r_i2lN (pc := 176) (tX11_walk.at 99 rfl) (by omega) ?_ | refine r_i2lZ (pc := 176) (tX11_walk.at 99 rfl) ⟨by omega, by omega⟩ ?_ | refine r_i2l (pc := 176) (tX11_walk.at 99 rfl) ?_
                      first | refine r_lsubL (pc := 177) (tX11_walk.at 100 rfl) ?_ | refine r_lsub (pc := 177) (tX11_walk.at 100 rfl) ?_
                      rw [show ((e : Nat) : Int) - (G.W (pl * 6 + u) : Nat) = ((e - G.W (pl * 6 + u) : Nat) : Int) by omega]
                      refine r_lstore (pc := 178) (i := 12) (tX11_walk.at 101 rfl) (by decide) ?_
                      first | refine r_iincN (pc := 180) (tX11_walk.at 102 rfl) rfl (by decide) ?_ | refine r_iinc (pc := 180) (tX11_walk.at 102 rfl) rfl rfl (by decide) ?_
                      refine r_goto (pc := 183) 141 (tX11_walk.at 103 rfl) (by decide) ?_
                      refine ihf (u + 1) _ (by omega) (by omega) (fun y hy2 => ?_)
                      by_cases h1 : y < u
                      · exact hy y h1
                      · rw [show y = u by omega]
                        omega
                exact find G.n 0 d (by omega) (by show 0 + d = d; omega) (fun y hy => by omega)
          refine r_ls _ ?_ (key k 0 none none (by omega))
          rw [hsu]
          rfl
        refine r_iload_n (pc := 72) (i := 1) (tX11_walk.at 41 rfl) rfl rfl ?_
        refine r_callS (M' := mX11_has) (pc := 73) (tX11_walk.at 42 rfl) ml_X11_221 rfl mw_X11_has ⟨by decide, by decide⟩ (c_mHas ha (show i < 8 by omega)) rfl rfl (Nat.le_of_ble_eq_true rfl) (Nat.le_of_ble_eq_true rfl) (Nat.le_of_ble_eq_true rfl) ?_
        rintro _ _ _ ⟨rfl, rfl, rfl⟩
        refine r_if_eqN (pc := 76) 83 (tX11_walk.at 43 rfl) (by decide) (by omega) (fun q => ?_) (fun q => ?_)
        · refine r_iconst (pc := 83) (w := zI (-1)) (tX11_walk.at 46 rfl) (by decide) ?_
          exact go (-1) (by rw [if_neg (by intro z; rw [z] at q; cases q)])
        · refine r_iconst (pc := 79) (w := nI 0) (tX11_walk.at 44 rfl) (by decide) ?_
          refine r_goto (pc := 80) 84 (tX11_walk.at 45 rfl) (by decide) ?_
          exact go 0 (by rw [if_pos (tbT q)])
    refine r_aload_n (pc := 8) (i := 0) (tX11_walk.at 4 rfl) rfl rfl ?_
    refine r_iload_n (pc := 9) (i := 2) (tX11_walk.at 5 rfl) rfl rfl ?_
    refine r_i2lZ (pc := 10) (tX11_walk.at 6 rfl) ⟨by omega, by omega⟩ ?_
    refine r_lconst (pc := 11) (w := lI 0) (tX11_walk.at 7 rfl) (by decide) ?_
    refine r_ldc2 (pc := 12) (tX11_walk.at 8 rfl) lcL_X11_328 ?_
    refine r_callS (M' := mX11_isIn) (pc := 15) (tX11_walk.at 9 rfl) ml_X11_114 rfl mw_X11_isIn ⟨by decide, by decide⟩ (c_mIsIn ⟨by omega, by omega⟩ ⟨by omega, by omega⟩ ⟨by omega, by omega⟩) rfl rfl (Nat.le_of_ble_eq_true rfl) (Nat.le_of_ble_eq_true rfl) (Nat.le_of_ble_eq_true rfl) ?_
    rintro _ _ _ ⟨rfl, rfl, rfl⟩
    by_cases c1 : 0 ≤ k ∧ k ≤ 1000
    · rw [show inB k 0 1000 = true from decide_eq_true c1, Bool.toNat_true]
      refine r_if_eqN (pc := 18) 42 (tX11_walk.at 10 rfl) (by decide) (by omega) (fun c => by omega) (fun _ => ?_)
      refine r_iload_n (pc := 21) (i := 3) (tX11_walk.at 11 rfl) rfl rfl ?_
      refine r_if_ltZ (pc := 22) 42 (tX11_walk.at 12 rfl) (by decide) ⟨by omega, by omega⟩ (fun c => ?_) (fun c => ?_)
      · refine r_iconst (pc := 42) (w := nI (Bool.toNat false)) (tX11_walk.at 21 rfl) (by decide) ?_
        exact chk false (decide_eq_false (by omega)).symm
      · refine r_iload (pc := 25) (i := 4) (tX11_walk.at 13 rfl) rfl ?_
        refine r_i2lZ (pc := 27) (tX11_walk.at 14 rfl) ⟨by omega, by omega⟩ ?_
        refine r_lconst (pc := 28) (w := lI 0) (tX11_walk.at 15 rfl) (by decide) ?_
        refine r_ldc2 (pc := 29) (tX11_walk.at 16 rfl) lcL_X11_330 ?_
        refine r_callS (M' := mX11_isIn) (pc := 32) (tX11_walk.at 17 rfl) ml_X11_114 rfl mw_X11_isIn ⟨by decide, by decide⟩ (c_mIsIn ⟨by omega, by omega⟩ ⟨by omega, by omega⟩ ⟨by omega, by omega⟩) rfl rfl (Nat.le_of_ble_eq_true rfl) (Nat.le_of_ble_eq_true rfl) (Nat.le_of_ble_eq_true rfl) ?_
        rintro _ _ _ ⟨rfl, rfl, rfl⟩
        by_cases c2 : 0 ≤ w ∧ w ≤ 3
        · rw [show inB w 0 3 = true from decide_eq_true c2, Bool.toNat_true]
          refine r_if_eqN (pc := 35) 42 (tX11_walk.at 18 rfl) (by decide) (by omega) (fun c => by omega) (fun _ => ?_)
          refine r_iconst (pc := 38) (w := nI (Bool.toNat true)) (tX11_walk.at 19 rfl) (by decide) ?_
          refine r_goto (pc := 39) 43 (tX11_walk.at 20 rfl) (by decide) ?_
          exact chk true (decide_eq_true ⟨c1, c, c2⟩).symm
        · rw [show inB w 0 3 = false from decide_eq_false c2, Bool.toNat_false]
          refine r_if_eqN (pc := 35) 42 (tX11_walk.at 18 rfl) (by decide) (by omega) (fun _ => ?_) (fun c => by omega)
          refine r_iconst (pc := 42) (w := nI (Bool.toNat false)) (tX11_walk.at 21 rfl) (by decide) ?_
          exact chk false (decide_eq_false (fun q => c2 q.2.2)).symm
    · rw [show inB k 0 1000 = false from decide_eq_false c1, Bool.toNat_false]
      refine r_if_eqN (pc := 18) 42 (tX11_walk.at 10 rfl) (by decide) (by omega) (fun _ => ?_) (fun c => by omega)
      refine r_iconst (pc := 42) (w := nI (Bool.toNat false)) (tX11_walk.at 21 rfl) (by decide) ?_
      exact chk false (decide_eq_false (fun q => c1 q.1)).symm
  · have cz1 : vtT G z = 1 := by unfold vtT at *; split <;> simp_all
    rw [cz1] at t1 ⊢
    rw [wkT, if_neg cz] at ht
    rw [decide_eq_false (by omega), Bool.toNat_false]
    refine r_if_eqN (pc := 5) 50 (tX11_walk.at 3 rfl) (by decide) (by omega) (fun _ => ?_) (fun c => by omega)
    exact out _ p1 (by rw [t1, ht]) (by omega)
end

