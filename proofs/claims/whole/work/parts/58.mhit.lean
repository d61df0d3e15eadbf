/-! ===== the reference: hitting, commuting, trees, absorption ===== -/
theorem go_nat {G : GT} {z y : Int} (h : goT G z y = 0) : ∃ i j : Nat, z = i ∧ y = j ∧ i < G.n ∧ j < G.n ∧ (rcm G.W G.n i).testBit j = true := by
  unfold goT at h
  split at h
  · next c1 =>
    split at h
    · next c2 =>
      split at h
      · next c3 =>
        obtain ⟨i, rfl, hi⟩ := vt_nat c1
        obtain ⟨j, rfl, hj⟩ := vt_nat c2
        exact ⟨i, j, rfl, rfl, hi, hj, c3⟩
      · cases h
    · cases h
  · cases h
theorem stG_gn {W T : Nat → Nat} {n k : Nat} : stG W n k = gnS 0 W T k n := by
  unfold gnS stG
  rw [if_pos rfl]
theorem csG_gn {W T : Nat → Nat} {n k : Nat} : csG W T n k = gnS 1 W T k n := by
  unfold gnS csG
  rw [if_neg (by omega)]
/-- what the reference tells of a mean -/
def mqP (W : Nat → Nat) (n T x : Nat) (g : Nat → Int) (p : Nat) : Int := fp p (frA (mqN W n T x g) (mqD W n T x g)) (frB (mqN W n T x g) (mqD W n T x g))
def cqN (n1 d1 n2 d2 : Int) : Int := n1 * (d2.tdiv (Int.gcd d1 d2 : Nat)) + n2 * (d1.tdiv (Int.gcd d1 d2 : Nat))
def cqD (d1 d2 : Int) : Int := d1.tdiv (Int.gcd d1 d2 : Nat) * d2
def hA (W : Nat → Nat) (n i j : Nat) : Int := frA (mqN W n (2 ^ j) i (stG W n)) (mqD W n (2 ^ j) i (stG W n))
def hB (W : Nat → Nat) (n i j : Nat) : Int := frB (mqN W n (2 ^ j) i (stG W n)) (mqD W n (2 ^ j) i (stG W n))
def cmA (W : Nat → Nat) (n i j : Nat) : Int := cqN (hA W n i j) (hB W n i j) (hA W n j i) (hB W n j i)
def cmB (W : Nat → Nat) (n i j : Nat) : Int := cqD (hB W n i j) (hB W n j i)
def okCq (W : Nat → Nat) (n i j : Nat) : Prop := okMn W n (2 ^ j) i (stG W n) ∧ okMn W n (2 ^ i) j (stG W n) ∧ inF (hB W n i j) ∧ inF (hB W n j i) ∧ hB W n i j ≠ 0 ∧ inF (cmA W n i j) ∧ inF (cmB W n i j)
/-- trees -/
def trL (n : Nat) : List Nat := ascL (unP (2 ^ n - 1) 1) n
def trD (W : Nat → Nat) (n : Nat) : Int := if n = 0 then 0 else dtS (trL n).length (trL n).length 0 (rMt W n (trL n) (fun _ => 0) (-1)) 1 1
def okTr (W : Nat → Nat) (n : Nat) : Prop := okDt (trL n).length (trL n).length 0 (rMt W n (trL n) (fun _ => 0) (-1)) 1
section
variable {v : Ev} {h : Hp} {top m : Nat} {S : MS} {G : GT} {cn : Nat} {cc : Nat → Int}
theorem c_mHitT {z y : Int} {p : Nat} (hr : RW S G cn cc) (hz : inI z) (hy : inI y) (hp : p ≤ 1) (ok : goT G z y = 0 → okMn G.W G.n (2 ^ y.toNat) z.toNat (stG G.W G.n)) : Cal v mX11_hittingTime 7 0 0 [.ref m, .int (zI z), .int (zI y), .int (nI p)] (mH v h m S) top (pA v h m S top (lT (goT G z y) (lI (mqP G.W G.n (2 ^ y.toNat) z.toNat (stG G.W G.n) p))) (goT G z y)) noX := by
  have h6 := hr.2.1.1.1
  refine Cal.ofJ (by decide +kernel) rfl (Nat.le_of_ble_eq_true rfl) fun hz0 => ?_
  refine r_ls [some (.ref m), some (.int (zI z)), some (.int (zI y)), some (.int (nI p))] rfl ?_
  generalize ht : goT G z y = t at *
  generalize hPo : pA v h m S top (lT t _) t = Po
  refine r_aload_n (pc := 0) (i := 0) (tX11_hittingTime.at 0 rfl) rfl rfl ?_
  refine r_iload_n (pc := 1) (i := 1) (tX11_hittingTime.at 1 rfl) rfl rfl ?_
  refine r_iload_n (pc := 2) (i := 2) (tX11_hittingTime.at 2 rfl) rfl rfl ?_
  refine r_callV (M' := mX11_canGo) (pc := 3) (tX11_hittingTime.at 3 rfl) ml_X11_287 rfl mw_X11_canGo ⟨by decide, by decide⟩ (mH_0) rfl rfl ((c_mCanGo hr hz hy)) rfl rfl (Nat.le_of_ble_eq_true rfl) (Nat.le_of_ble_eq_true rfl) (Nat.le_of_ble_eq_true rfl) ?_
  rw [ht]
  rintro _ _ _ ⟨rfl, rfl, S1, rfl, p1, t1, l1⟩
  by_cases c : t = 0
  · rw [decide_eq_true c, Bool.toNat_true]
    refine r_if_neN (pc := 6) 11 (tX11_hittingTime.at 4 rfl) (by decide) (by omega) (fun _ => ?_) (fun c => by omega)
    have ok := ok c
    rw [c] at ht
    obtain ⟨i, j, rfl, rfl, hi, hj, -⟩ := go_nat ht
    rw [Int.toNat_natCast, Int.toNat_natCast] at *
    rw [zI_nat, zI_nat] at *
    refine r_aload_n (pc := 11) (i := 0) (tX11_hittingTime.at 7 rfl) rfl rfl ?_
    refine r_iload_n (pc := 12) (i := 1) (tX11_hittingTime.at 8 rfl) rfl rfl ?_
    refine r_iconst (pc := 13) (w := nI 1) (tX11_hittingTime.at 9 rfl) (by decide) ?_
    refine r_iload_n (pc := 14) (i := 2) (tX11_hittingTime.at 10 rfl) rfl rfl ?_
    refine r_ishl (pc := 15) (tX11_hittingTime.at 11 rfl) ?_
    rw [bs_one j (by omega)]
    refine r_iconst (pc := 16) (w := nI 0) (tX11_hittingTime.at 12 rfl) (by decide) ?_
    refine r_callV (M' := mX11_meanTo) (pc := 17) (tX11_hittingTime.at 13 rfl) ml_X11_290 rfl mw_X11_meanTo ⟨by decide, by decide⟩ (mH_0) rfl rfl ((c_mMean (p := 0) (p1.rwG hr.1) l1 h6 hr.2.1.w9 hi (p2_64 (by omega)) (by omega) (fun k hk => stG_gn) ok)) rfl rfl (Nat.le_of_ble_eq_true rfl) (Nat.le_of_ble_eq_true rfl) (Nat.le_of_ble_eq_true rfl) ?_
    rintro _ _ _ ⟨rfl, rfl, S2, rfl, p2, a2, b2⟩
    refine r_aload_n (pc := 20) (i := 0) (tX11_hittingTime.at 14 rfl) rfl rfl ?_
    refine r_iload_n (pc := 21) (i := 3) (tX11_hittingTime.at 15 rfl) rfl rfl ?_
    refine r_callV (M' := mX11_told) (pc := 22) (tX11_hittingTime.at 16 rfl) ml_X11_283 rfl mw_X11_told ⟨by decide, by decide⟩ (mH_0) rfl rfl (c_mTold hp) rfl rfl (Nat.le_of_ble_eq_true rfl) (Nat.le_of_ble_eq_true rfl) (Nat.le_of_ble_eq_true rfl) ?_
    rintro _ _ _ ⟨rfl, rfl, rfl⟩
    rw [a2, b2]
    refine r_lret (pc := 25) (tX11_hittingTime.at 17 rfl) rfl (Nat.le_of_ble_eq_true rfl) (Nat.le_of_ble_eq_true rfl) ?_
    subst hPo
    exact ⟨by rw [lT, if_pos c]; rfl, rfl, S2, rfl, per.trans p1 p2.1, by rw [p2.2.1, t1]⟩
  · rw [decide_eq_false c, Bool.toNat_false]
    refine r_if_neN (pc := 6) 11 (tX11_hittingTime.at 4 rfl) (by decide) (by omega) (fun c => by omega) (fun _ => ?_)
    refine r_lconst (pc := 9) (w := lI 0) (tX11_hittingTime.at 5 rfl) (by decide) ?_
    refine r_lret (pc := 10) (tX11_hittingTime.at 6 rfl) rfl (Nat.le_of_ble_eq_true rfl) (Nat.le_of_ble_eq_true rfl) ?_
    subst hPo
    exact ⟨by rw [lT, if_neg c]; rfl, rfl, S1, rfl, p1, t1⟩
theorem c_mHitC {z y : Int} {p : Nat} (hr : RW S G cn cc) (hz : inI z) (hy : inI y) (hp : p ≤ 1) (ok : goT G z y = 0 → okMn G.W G.n (2 ^ y.toNat) z.toNat (csG G.W (tbl G cn cc) G.n)) : Cal v mX11_hittingCost 7 0 0 [.ref m, .int (zI z), .int (zI y), .int (nI p)] (mH v h m S) top (pA v h m S top (lT (goT G z y) (lI (mqP G.W G.n (2 ^ y.toNat) z.toNat (csG G.W (tbl G cn cc) G.n) p))) (goT G z y)) noX := by
  have h6 := hr.2.1.1.1
  refine Cal.ofJ (by decide +kernel) rfl (Nat.le_of_ble_eq_true rfl) fun hz0 => ?_
  refine r_ls [some (.ref m), some (.int (zI z)), some (.int (zI y)), some (.int (nI p))] rfl ?_
  generalize ht : goT G z y = t at *
  generalize hPo : pA v h m S top (lT t _) t = Po
  refine r_aload_n (pc := 0) (i := 0) (tX11_hittingCost.at 0 rfl) rfl rfl ?_
  refine r_iload_n (pc := 1) (i := 1) (tX11_hittingCost.at 1 rfl) rfl rfl ?_
  refine r_iload_n (pc := 2) (i := 2) (tX11_hittingCost.at 2 rfl) rfl rfl ?_
  refine r_callV (M' := mX11_canGo) (pc := 3) (tX11_hittingCost.at 3 rfl) ml_X11_287 rfl mw_X11_canGo ⟨by decide, by decide⟩ (mH_0) rfl rfl ((c_mCanGo hr hz hy)) rfl rfl (Nat.le_of_ble_eq_true rfl) (Nat.le_of_ble_eq_true rfl) (Nat.le_of_ble_eq_true rfl) ?_
  rw [ht]
  rintro _ _ _ ⟨rfl, rfl, S1, rfl, p1, t1, l1⟩
  by_cases c : t = 0
  · rw [decide_eq_true c, Bool.toNat_true]
    refine r_if_neN (pc := 6) 11 (tX11_hittingCost.at 4 rfl) (by decide) (by omega) (fun _ => ?_) (fun c => by omega)
    have ok := ok c
    rw [c] at ht
    obtain ⟨i, j, rfl, rfl, hi, hj, -⟩ := go_nat ht
    rw [Int.toNat_natCast, Int.toNat_natCast] at *
    rw [zI_nat, zI_nat] at *
    refine r_aload_n (pc := 11) (i := 0) (tX11_hittingCost.at 7 rfl) rfl rfl ?_
    refine r_iload_n (pc := 12) (i := 1) (tX11_hittingCost.at 8 rfl) rfl rfl ?_
    refine r_iconst (pc := 13) (w := nI 1) (tX11_hittingCost.at 9 rfl) (by decide) ?_
    refine r_iload_n (pc := 14) (i := 2) (tX11_hittingCost.at 10 rfl) rfl rfl ?_
    refine r_ishl (pc := 15) (tX11_hittingCost.at 11 rfl) ?_
    rw [bs_one j (by omega)]
    refine r_iconst (pc := 16) (w := nI 1) (tX11_hittingCost.at 12 rfl) (by decide) ?_
    refine r_callV (M' := mX11_meanTo) (pc := 17) (tX11_hittingCost.at 13 rfl) ml_X11_290 rfl mw_X11_meanTo ⟨by decide, by decide⟩ (mH_0) rfl rfl ((c_mMean (p := 1) (p1.rwG hr.1) l1 h6 hr.2.1.w9 hi (p2_64 (by omega)) (by omega) (fun k hk => csG_gn) ok)) rfl rfl (Nat.le_of_ble_eq_true rfl) (Nat.le_of_ble_eq_true rfl) (Nat.le_of_ble_eq_true rfl) ?_
    rintro _ _ _ ⟨rfl, rfl, S2, rfl, p2, a2, b2⟩
    refine r_aload_n (pc := 20) (i := 0) (tX11_hittingCost.at 14 rfl) rfl rfl ?_
    refine r_iload_n (pc := 21) (i := 3) (tX11_hittingCost.at 15 rfl) rfl rfl ?_
    refine r_callV (M' := mX11_told) (pc := 22) (tX11_hittingCost.at 16 rfl) ml_X11_283 rfl mw_X11_told ⟨by decide, by decide⟩ (mH_0) rfl rfl (c_mTold hp) rfl rfl (Nat.le_of_ble_eq_true rfl) (Nat.le_of_ble_eq_true rfl) (Nat.le_of_ble_eq_true rfl) ?_
    rintro _ _ _ ⟨rfl, rfl, rfl⟩
    rw [a2, b2]
    refine r_lret (pc := 25) (tX11_hittingCost.at 17 rfl) rfl (Nat.le_of_ble_eq_true rfl) (Nat.le_of_ble_eq_true rfl) ?_
    subst hPo
    exact ⟨by rw [lT, if_pos c]; rfl, rfl, S2, rfl, per.trans p1 p2.1, by rw [p2.2.1, t1]⟩
  · rw [decide_eq_false c, Bool.toNat_false]
    refine r_if_neN (pc := 6) 11 (tX11_hittingCost.at 4 rfl) (by decide) (by omega) (fun c => by omega) (fun _ => ?_)
    refine r_lconst (pc := 9) (w := lI 0) (tX11_hittingCost.at 5 rfl) (by decide) ?_
    refine r_lret (pc := 10) (tX11_hittingCost.at 6 rfl) rfl (Nat.le_of_ble_eq_true rfl) (Nat.le_of_ble_eq_true rfl) ?_
    subst hPo
    exact ⟨by rw [lT, if_neg c]; rfl, rfl, S1, rfl, p1, t1⟩
theorem c_mComs {i j : Nat} (hg : rwG S G) (hl : lad S G cn cc) (hn : G.n ≤ 6) (hW : ∀ k, k < 36 → G.W k ≤ 9) (hi : i < G.n) (hj : j < G.n) (ok : okCq G.W G.n i j) : Cal v mX11_commutes 5 0 0 [.ref m, .int (nI i), .int (nI j)] (mH v h m S) top (pFr v h m S top (cmA G.W G.n i j) (cmB G.W G.n i j)) noX := by
  obtain ⟨o1, o2, o3, o4, o5, o6, o7⟩ := ok
  refine Cal.ofJ (by decide +kernel) rfl (Nat.le_of_ble_eq_true rfl) fun hz0 => ?_
  refine r_ls [some (.ref m), some (.int (nI i)), some (.int (nI j)), none, none, none, none, none, none] rfl ?_
  generalize hPo : pFr v h m S top (cmA G.W G.n i j) (cmB G.W G.n i j) = Po
  refine r_aload_n (pc := 0) (i := 0) (tX11_commutes.at 0 rfl) rfl rfl ?_
  refine r_iload_n (pc := 1) (i := 1) (tX11_commutes.at 1 rfl) rfl rfl ?_
  refine r_iconst (pc := 2) (w := nI 1) (tX11_commutes.at 2 rfl) (by decide) ?_
  refine r_iload_n (pc := 3) (i := 2) (tX11_commutes.at 3 rfl) rfl rfl ?_
  refine r_ishl (pc := 4) (tX11_commutes.at 4 rfl) ?_
  rw [bs_one j (by omega)]
  refine r_iconst (pc := 5) (w := nI 0) (tX11_commutes.at 5 rfl) (by decide) ?_
  refine r_callV (M' := mX11_meanTo) (pc := 6) (tX11_commutes.at 6 rfl) ml_X11_290 rfl mw_X11_meanTo ⟨by decide, by decide⟩ (mH_0) rfl rfl ((c_mMean (p := 0) hg hl hn hW hi (p2_64 (by omega)) (by omega) (fun k hk => stG_gn) o1)) rfl rfl (Nat.le_of_ble_eq_true rfl) (Nat.le_of_ble_eq_true rfl) (Nat.le_of_ble_eq_true rfl) ?_
  rintro _ _ _ ⟨rfl, rfl, S1, rfl, p1, a1, b1⟩
  have hg1 := p1.1.rwG hg
  have hl1 := p1.ld hl
  have a1 : S1.abv = hA G.W G.n i j := a1
  have b1 : S1.blw = hB G.W G.n i j := b1
  refine r_aload_n (pc := 9) (i := 0) (tX11_commutes.at 7 rfl) rfl rfl ?_
  refine r_get (pc := 10) (tX11_commutes.at 8 rfl) gf_X11_228 (mH_0) rfl ?_
  refine r_lstore_n (pc := 13) (i := 3) (tX11_commutes.at 9 rfl) rfl (by decide) ?_
  refine r_aload_n (pc := 14) (i := 0) (tX11_commutes.at 10 rfl) rfl rfl ?_
  refine r_get (pc := 15) (tX11_commutes.at 11 rfl) gf_X11_232 (mH_0) rfl ?_
  refine r_lstore (pc := 18) (i := 5) (tX11_commutes.at 12 rfl) (by decide) ?_
  refine r_ls [some (.ref m), some (.int (nI i)), some (.int (nI j)), some (.long (lI (hA G.W G.n i j))), none, some (.long (lI (hB G.W G.n i j))), none, none, none] (by rw [← a1, ← b1]; rfl) ?_
  refine r_aload_n (pc := 20) (i := 0) (tX11_commutes.at 13 rfl) rfl rfl ?_
  refine r_iload_n (pc := 21) (i := 2) (tX11_commutes.at 14 rfl) rfl rfl ?_
  refine r_iconst (pc := 22) (w := nI 1) (tX11_commutes.at 15 rfl) (by decide) ?_
  refine r_iload_n (pc := 23) (i := 1) (tX11_commutes.at 16 rfl) rfl rfl ?_
  refine r_ishl (pc := 24) (tX11_commutes.at 17 rfl) ?_
  rw [bs_one i (by omega)]
  refine r_iconst (pc := 25) (w := nI 0) (tX11_commutes.at 18 rfl) (by decide) ?_
  refine r_callV (M' := mX11_meanTo) (pc := 26) (tX11_commutes.at 19 rfl) ml_X11_290 rfl mw_X11_meanTo ⟨by decide, by decide⟩ (mH_0) rfl rfl ((c_mMean (p := 0) hg1 hl1 hn hW hj (p2_64 (by omega)) (by omega) (fun k hk => stG_gn) o2)) rfl rfl (Nat.le_of_ble_eq_true rfl) (Nat.le_of_ble_eq_true rfl) (Nat.le_of_ble_eq_true rfl) ?_
  rintro _ _ _ ⟨rfl, rfl, S2, rfl, p2, a2, b2⟩
  have a2 : S2.abv = hA G.W G.n j i := a2
  have b2 : S2.blw = hB G.W G.n j i := b2
  have e1 : ∀ A : MS, A.1.2.2.2.2.1.1 = A.abv := fun A => rfl
  have e2 : ∀ A : MS, A.1.2.2.2.2.1.2 = A.blw := fun A => rfl
  unfold cmA at o6 hPo
  unfold cmB at o7 hPo
  generalize hA G.W G.n i j = n1 at *
  generalize hB G.W G.n i j = d1 at *
  generalize hA G.W G.n j i = n2 at *
  generalize hB G.W G.n j i = d2 at *
  have hgp : (Int.gcd d1 d2) ≠ 0 := fun z => o5 (Int.eq_zero_of_gcd_eq_zero_left z)
  have hgl : Int.gcd d1 d2 ≤ 9223372036854775807 := by
    have h1 : Int.gcd d1 d2 ≤ d1.natAbs := Nat.gcd_le_left _ (by omega)
    have := o3.1
    have := o3.2
    omega
  have hin : ∀ x, inF x → inL x := fun x k => ⟨by have := k.1; omega, k.2⟩
  refine r_lload (pc := 29) (i := 5) (tX11_commutes.at 20 rfl) rfl ?_
  refine r_aload_n (pc := 31) (i := 0) (tX11_commutes.at 21 rfl) rfl rfl ?_
  refine r_get (pc := 32) (tX11_commutes.at 22 rfl) gf_X11_232 (mH_0) rfl ?_
  refine r_eq rfl (st2 := [.long (lI d2), .long (lI d1)]) (by rw [← b2]; rfl) ?_
  refine r_callS (M' := mX11_divisor) (pc := 35) (tX11_commutes.at 23 rfl) ml_X11_225 rfl mw_X11_divisor ⟨by decide, by decide⟩ (c_mGcd o3 o4) rfl rfl (Nat.le_of_ble_eq_true rfl) (Nat.le_of_ble_eq_true rfl) (Nat.le_of_ble_eq_true rfl) ?_
  rintro _ _ _ ⟨rfl, rfl, rfl⟩
  refine r_lstore (pc := 38) (i := 7) (tX11_commutes.at 24 rfl) (by decide) ?_
  refine r_aload_n (pc := 40) (i := 0) (tX11_commutes.at 25 rfl) rfl rfl ?_
  refine r_lload_n (pc := 41) (i := 3) (tX11_commutes.at 26 rfl) rfl rfl ?_
  refine r_aload_n (pc := 42) (i := 0) (tX11_commutes.at 27 rfl) rfl rfl ?_
  refine r_get (pc := 43) (tX11_commutes.at 28 rfl) gf_X11_232 (mH_0) rfl ?_
  refine r_eq rfl (st2 := [.long (lI d2), .long (lI n1), .ref m]) (by rw [← b2]; rfl) ?_
  refine r_lload (pc := 46) (i := 7) (tX11_commutes.at 29 rfl) rfl ?_
  refine r_ldivL (pc := 48) (tX11_commutes.at 30 rfl) (hin _ o4) (⟨by omega, by omega⟩) ((by omega)) ?_
  first | refine r_lmulL (pc := 49) (tX11_commutes.at 31 rfl) ?_ | refine r_lmul (pc := 49) (tX11_commutes.at 31 rfl) ?_
  refine r_aload_n (pc := 50) (i := 0) (tX11_commutes.at 32 rfl) rfl rfl ?_
  refine r_get (pc := 51) (tX11_commutes.at 33 rfl) gf_X11_228 (mH_0) rfl ?_
  refine r_eq rfl (st2 := [.long (lI n2), .long (lI (n1 * d2.tdiv (Int.gcd d1 d2 : Nat))), .ref m]) (by rw [← a2]; rfl) ?_
  refine r_lload (pc := 54) (i := 5) (tX11_commutes.at 34 rfl) rfl ?_
  refine r_lload (pc := 56) (i := 7) (tX11_commutes.at 35 rfl) rfl ?_
  refine r_ldivL (pc := 58) (tX11_commutes.at 36 rfl) (hin _ o3) (⟨by omega, by omega⟩) ((by omega)) ?_
  first | refine r_lmulL (pc := 59) (tX11_commutes.at 37 rfl) ?_ | refine r_lmul (pc := 59) (tX11_commutes.at 37 rfl) ?_
  first | refine r_laddL (pc := 60) (tX11_commutes.at 38 rfl) ?_ | refine r_ladd (pc := 60) (tX11_commutes.at 38 rfl) ?_
  refine r_lload (pc := 61) (i := 5) (tX11_commutes.at 39 rfl) rfl ?_
  refine r_lload (pc := 63) (i := 7) (tX11_commutes.at 40 rfl) rfl ?_
  refine r_ldivL (pc := 65) (tX11_commutes.at 41 rfl) (hin _ o3) (⟨by omega, by omega⟩) ((by omega)) ?_
  refine r_aload_n (pc := 66) (i := 0) (tX11_commutes.at 42 rfl) rfl rfl ?_
  refine r_get (pc := 67) (tX11_commutes.at 43 rfl) gf_X11_232 (mH_0) rfl ?_
  refine r_eq rfl (st2 := [.long (lI d2), .long (lI (d1.tdiv (Int.gcd d1 d2 : Nat))), .long (lI (n1 * d2.tdiv (Int.gcd d1 d2 : Nat) + n2 * d1.tdiv (Int.gcd d1 d2 : Nat))), .ref m]) (by rw [← b2]; rfl) ?_
  first | refine r_lmulL (pc := 70) (tX11_commutes.at 44 rfl) ?_ | refine r_lmul (pc := 70) (tX11_commutes.at 44 rfl) ?_
  refine r_callV (M' := mX11_fraction) (pc := 71) (tX11_commutes.at 45 rfl) ml_X11_245 rfl mw_X11_fraction ⟨by decide, by decide⟩ (mH_0) rfl rfl (c_mFrac o6 o7) rfl rfl (Nat.le_of_ble_eq_true rfl) (Nat.le_of_ble_eq_true rfl) (Nat.le_of_ble_eq_true rfl) ?_
  rintro _ _ _ ⟨rfl, rfl, rfl⟩
  refine r_vret (pc := 74) (tX11_commutes.at 46 rfl) rfl (Nat.le_of_ble_eq_true rfl) (Nat.le_of_ble_eq_true rfl) ?_
  subst hPo
  have p3 : pel S2 (S2.fra (cqN n1 d1 n2 d2) (cqD d1 d2)) := ⟨⟨⟨rfl, rfl, rfl, rfl⟩, rfl, rfl⟩, rfl, rfl, rfl, rfl⟩
  exact ⟨rfl, rfl, _, rfl, p1.trans (p2.trans p3), rfl, rfl⟩
theorem c_mComT {z y : Int} {p : Nat} (hr : RW S G cn cc) (hz : inI z) (hy : inI y) (hp : p ≤ 1) (ok : goT G z y = 0 → okCq G.W G.n z.toNat y.toNat) : Cal v mX11_commuteTime 7 0 0 [.ref m, .int (zI z), .int (zI y), .int (nI p)] (mH v h m S) top (pA v h m S top (lT (goT G z y) (lI (fp p (frA (cmA G.W G.n z.toNat y.toNat) (cmB G.W G.n z.toNat y.toNat)) (frB (cmA G.W G.n z.toNat y.toNat) (cmB G.W G.n z.toNat y.toNat))))) (goT G z y)) noX := by
  have h6 := hr.2.1.1.1
  refine Cal.ofJ (by decide +kernel) rfl (Nat.le_of_ble_eq_true rfl) fun hz0 => ?_
  refine r_ls [some (.ref m), some (.int (zI z)), some (.int (zI y)), some (.int (nI p))] rfl ?_
  generalize ht : goT G z y = t at *
  generalize hPo : pA v h m S top (lT t _) t = Po
  refine r_aload_n (pc := 0) (i := 0) (tX11_commuteTime.at 0 rfl) rfl rfl ?_
  refine r_iload_n (pc := 1) (i := 1) (tX11_commuteTime.at 1 rfl) rfl rfl ?_
  refine r_iload_n (pc := 2) (i := 2) (tX11_commuteTime.at 2 rfl) rfl rfl ?_
  refine r_callV (M' := mX11_canGo) (pc := 3) (tX11_commuteTime.at 3 rfl) ml_X11_287 rfl mw_X11_canGo ⟨by decide, by decide⟩ (mH_0) rfl rfl ((c_mCanGo hr hz hy)) rfl rfl (Nat.le_of_ble_eq_true rfl) (Nat.le_of_ble_eq_true rfl) (Nat.le_of_ble_eq_true rfl) ?_
  rw [ht]
  rintro _ _ _ ⟨rfl, rfl, S1, rfl, p1, t1, l1⟩
  by_cases c : t = 0
  · rw [decide_eq_true c, Bool.toNat_true]
    refine r_if_neN (pc := 6) 11 (tX11_commuteTime.at 4 rfl) (by decide) (by omega) (fun _ => ?_) (fun c => by omega)
    have ok := ok c
    rw [c] at ht
    obtain ⟨i, j, rfl, rfl, hi, hj, -⟩ := go_nat ht
    rw [Int.toNat_natCast, Int.toNat_natCast] at *
    rw [zI_nat, zI_nat] at *
    refine r_aload_n (pc := 11) (i := 0) (tX11_commuteTime.at 7 rfl) rfl rfl ?_
    refine r_iload_n (pc := 12) (i := 1) (tX11_commuteTime.at 8 rfl) rfl rfl ?_
    refine r_iload_n (pc := 13) (i := 2) (tX11_commuteTime.at 9 rfl) rfl rfl ?_
    refine r_callV (M' := mX11_commutes) (pc := 14) (tX11_commuteTime.at 10 rfl) ml_X11_294 rfl mw_X11_commutes ⟨by decide, by decide⟩ (mH_0) rfl rfl ((c_mComs (p1.rwG hr.1) l1 h6 hr.2.1.w9 hi hj ok)) rfl rfl (Nat.le_of_ble_eq_true rfl) (Nat.le_of_ble_eq_true rfl) (Nat.le_of_ble_eq_true rfl) ?_
    rintro _ _ _ ⟨rfl, rfl, S2, rfl, p2, a2, b2⟩
    refine r_aload_n (pc := 17) (i := 0) (tX11_commuteTime.at 11 rfl) rfl rfl ?_
    refine r_iload_n (pc := 18) (i := 3) (tX11_commuteTime.at 12 rfl) rfl rfl ?_
    refine r_callV (M' := mX11_told) (pc := 19) (tX11_commuteTime.at 13 rfl) ml_X11_283 rfl mw_X11_told ⟨by decide, by decide⟩ (mH_0) rfl rfl (c_mTold hp) rfl rfl (Nat.le_of_ble_eq_true rfl) (Nat.le_of_ble_eq_true rfl) (Nat.le_of_ble_eq_true rfl) ?_
    rintro _ _ _ ⟨rfl, rfl, rfl⟩
    rw [a2, b2]
    refine r_lret (pc := 22) (tX11_commuteTime.at 14 rfl) rfl (Nat.le_of_ble_eq_true rfl) (Nat.le_of_ble_eq_true rfl) ?_
    subst hPo
    exact ⟨by rw [lT, if_pos c], rfl, S2, rfl, per.trans p1 p2.1, by rw [p2.2.1, t1]⟩
  · rw [decide_eq_false c, Bool.toNat_false]
    refine r_if_neN (pc := 6) 11 (tX11_commuteTime.at 4 rfl) (by decide) (by omega) (fun c => by omega) (fun _ => ?_)
    refine r_lconst (pc := 9) (w := lI 0) (tX11_commuteTime.at 5 rfl) (by decide) ?_
    refine r_lret (pc := 10) (tX11_commuteTime.at 6 rfl) rfl (Nat.le_of_ble_eq_true rfl) (Nat.le_of_ble_eq_true rfl) ?_
    subst hPo
    exact ⟨by rw [lT, if_neg c]; rfl, rfl, S1, rfl, p1, t1⟩
/-- resistance, by the commute time and the sum of the degrees -/
def rqN (W : Nat → Nat) (n i j : Nat) : Int := frA (cmA W n i j) (cmB W n i j)
def rqD (W : Nat → Nat) (n i j : Nat) : Int := frB (cmA W n i j) (cmB W n i j)
def rqS (W : Nat → Nat) (n i : Nat) : Int := (sdS W n (rcm W n i) n : Nat)
def rqA (W : Nat → Nat) (n i j : Nat) : Int := if i = j then rqN W n i j else frA (rqN W n i j) (rqD W n i j * rqS W n i)
def rqB (W : Nat → Nat) (n i j : Nat) : Int := if i = j then rqD W n i j else frB (rqN W n i j) (rqD W n i j * rqS W n i)
theorem c_mResi {z y : Int} {p : Nat} (hr : RW S G cn cc) (hz : inI z) (hy : inI y) (hp : p ≤ 1) (ok : goT G z y = 0 → okCq G.W G.n z.toNat y.toNat ∧ (z.toNat ≠ y.toNat → inF (rqN G.W G.n z.toNat y.toNat) ∧ inF (rqD G.W G.n z.toNat y.toNat * rqS G.W G.n z.toNat))) : Cal v mX11_resistance 7 0 0 [.ref m, .int (zI z), .int (zI y), .int (nI p)] (mH v h m S) top (pA v h m S top (lT (goT G z y) (lI (fp p (rqA G.W G.n z.toNat y.toNat) (rqB G.W G.n z.toNat y.toNat)))) (goT G z y)) noX := by
  have h6 := hr.2.1.1.1
  refine Cal.ofJ (by decide +kernel) rfl (Nat.le_of_ble_eq_true rfl) fun hz0 => ?_
  refine r_ls [some (.ref m), some (.int (zI z)), some (.int (zI y)), some (.int (nI p)), none, none, none, none] rfl ?_
  generalize ht : goT G z y = t at *
  generalize hPo : pA v h m S top (lT t _) t = Po
  refine r_aload_n (pc := 0) (i := 0) (tX11_resistance.at 0 rfl) rfl rfl ?_
  refine r_iload_n (pc := 1) (i := 1) (tX11_resistance.at 1 rfl) rfl rfl ?_
  refine r_iload_n (pc := 2) (i := 2) (tX11_resistance.at 2 rfl) rfl rfl ?_
  refine r_callV (M' := mX11_canGo) (pc := 3) (tX11_resistance.at 3 rfl) ml_X11_287 rfl mw_X11_canGo ⟨by decide, by decide⟩ (mH_0) rfl rfl ((c_mCanGo hr hz hy)) rfl rfl (Nat.le_of_ble_eq_true rfl) (Nat.le_of_ble_eq_true rfl) (Nat.le_of_ble_eq_true rfl) ?_
  rw [ht]
  rintro _ _ _ ⟨rfl, rfl, S1, rfl, p1, t1, l1⟩
  by_cases c : t = 0
  · rw [decide_eq_true c, Bool.toNat_true]
    refine r_if_neN (pc := 6) 11 (tX11_resistance.at 4 rfl) (by decide) (by omega) (fun _ => ?_) (fun c => by omega)
    have ok := ok c
    rw [c] at ht
    obtain ⟨i, j, rfl, rfl, hi, hj, -⟩ := go_nat ht
    rw [Int.toNat_natCast, Int.toNat_natCast] at *
    rw [zI_nat, zI_nat] at *
    obtain ⟨ok, ok2⟩ := ok
    have hR := rcm_lt (W := G.W) (show i < 6 by omega) h6
    refine r_aload_n (pc := 11) (i := 0) (tX11_resistance.at 7 rfl) rfl rfl ?_
    refine r_iload_n (pc := 12) (i := 1) (tX11_resistance.at 8 rfl) rfl rfl ?_
    refine r_iload_n (pc := 13) (i := 2) (tX11_resistance.at 9 rfl) rfl rfl ?_
    refine r_callV (M' := mX11_commutes) (pc := 14) (tX11_resistance.at 10 rfl) ml_X11_294 rfl mw_X11_commutes ⟨by decide, by decide⟩ (mH_0) rfl rfl ((c_mComs (p1.rwG hr.1) l1 h6 hr.2.1.w9 hi hj ok)) rfl rfl (Nat.le_of_ble_eq_true rfl) (Nat.le_of_ble_eq_true rfl) (Nat.le_of_ble_eq_true rfl) ?_
    rintro _ _ _ ⟨rfl, rfl, S2, rfl, p2, a2, b2⟩
    have a2 : S2.abv = rqN G.W G.n i j := a2
    have b2 : S2.blw = rqD G.W G.n i j := b2
    have hg2 := p2.1.rwG (p1.rwG hr.1)
    have hl2 := p2.ld l1
    refine r_aload_n (pc := 17) (i := 0) (tX11_resistance.at 11 rfl) rfl rfl ?_
    refine r_iload_n (pc := 18) (i := 1) (tX11_resistance.at 12 rfl) rfl rfl ?_
    refine r_callV (M' := mX11_reachedFrom) (pc := 19) (tX11_resistance.at 13 rfl) ml_X11_249 rfl mw_X11_reachedFrom ⟨by decide, by decide⟩ (mH_0) rfl rfl (c_mReach hg2 hl2 h6 (by omega) hr.2.1.w9) rfl rfl (Nat.le_of_ble_eq_true rfl) (Nat.le_of_ble_eq_true rfl) (Nat.le_of_ble_eq_true rfl) ?_
    rintro _ _ _ ⟨rfl, rfl, rfl⟩
    refine r_istore (pc := 22) (i := 4) (tX11_resistance.at 14 rfl) (by decide) ?_
    refine r_lconst (pc := 24) (w := lI 0) (tX11_resistance.at 15 rfl) (by decide) ?_
    refine r_lstore (pc := 25) (i := 5) (tX11_resistance.at 16 rfl) (by decide) ?_
    refine r_iconst (pc := 27) (w := nI 0) (tX11_resistance.at 17 rfl) (by decide) ?_
    refine r_istore (pc := 28) (i := 7) (tX11_resistance.at 18 rfl) (by decide) ?_
    refine r_eq rfl rfl (r_ls [some (.ref m), some (.int (nI i)), some (.int (nI j)), some (.int (nI p)), some (.int (nI (rcm G.W G.n i))), some (.long (lI ((sdS G.W G.n (rcm G.W G.n i) 0 : Nat) : Int))), none, some (.int (nI 0))] rfl ?_)
    refine down (n := G.n) (P := fun u => J v mX11_resistance (rmOf 7 0 0) (KM v Po noX 0 0) top 0 0 (mH v h m S2) top 30 [some (.ref m), some (.int (nI i)), some (.int (nI j)), some (.int (nI p)), some (.int (nI (rcm G.W G.n i))), some (.long (lI ((sdS G.W G.n (rcm G.W G.n i) u : Nat) : Int))), none, some (.int (nI u))] []) ?_ ?_ 0 (by omega)
    · refine r_iload (pc := 30) (i := 7) (tX11_resistance.at 19 rfl) rfl ?_
      refine r_aload_n (pc := 32) (i := 0) (tX11_resistance.at 20 rfl) rfl rfl ?_
      refine r_callV (M' := mX11_count) (pc := 33) (tX11_resistance.at 21 rfl) ml_X11_218 rfl mw_X11_count ⟨by decide, by decide⟩ (mH_0) rfl rfl (c_mCount hg2.1) rfl rfl (Nat.le_of_ble_eq_true rfl) (Nat.le_of_ble_eq_true rfl) (Nat.le_of_ble_eq_true rfl) ?_
      rintro _ _ _ ⟨rfl, rfl, rfl⟩
      rw [hg2.2.1]
      refine r_icmp_geN (pc := 36) 72 (tX11_resistance.at 22 rfl) (by decide) (by omega) (by omega) (fun _ => ?_) (fun c => by omega)
      have fin : ∀ S3 : MS, pel S2 S3 → S3.abv = rqA G.W G.n i j → S3.blw = rqB G.W G.n i j → J v mX11_resistance (rmOf 7 0 0) (KM v Po noX 0 0) top 0 0 (mH v h m S3) top 92 [some (.ref m), some (.int (nI i)), some (.int (nI j)), some (.int (nI p)), some (.int (nI (rcm G.W G.n i))), some (.long (lI ((sdS G.W G.n (rcm G.W G.n i) G.n : Nat) : Int))), none, some (.int (nI G.n))] [] := by
        intro S3 p3 a3 b3
        refine r_aload_n (pc := 92) (i := 0) (tX11_resistance.at 50 rfl) rfl rfl ?_
        refine r_iload_n (pc := 93) (i := 3) (tX11_resistance.at 51 rfl) rfl rfl ?_
        refine r_callV (M' := mX11_told) (pc := 94) (tX11_resistance.at 52 rfl) ml_X11_283 rfl mw_X11_told ⟨by decide, by decide⟩ (mH_0) rfl rfl (c_mTold hp) rfl rfl (Nat.le_of_ble_eq_true rfl) (Nat.le_of_ble_eq_true rfl) (Nat.le_of_ble_eq_true rfl) ?_
        rintro _ _ _ ⟨rfl, rfl, rfl⟩
        rw [a3, b3]
        refine r_lret (pc := 97) (tX11_resistance.at 53 rfl) rfl (Nat.le_of_ble_eq_true rfl) (Nat.le_of_ble_eq_true rfl) ?_
        subst hPo
        exact ⟨by rw [lT, if_pos c], rfl, S3, rfl, per.trans p1 (per.trans p2.1 p3.1), by rw [p3.2.1, p2.2.1, t1]⟩
      refine r_iload_n (pc := 72) (i := 1) (tX11_resistance.at 39 rfl) rfl rfl ?_
      refine r_iload_n (pc := 73) (i := 2) (tX11_resistance.at 40 rfl) rfl rfl ?_
      refine r_icmp_eqN (pc := 74) 92 (tX11_resistance.at 41 rfl) (by decide) (by omega) (by omega) (fun q => ?_) (fun q => ?_)
      · exact fin S2 ⟨per.refl _, rfl, rfl, rfl, rfl⟩ (by rw [a2, rqA, if_pos q]) (by rw [b2, rqB, if_pos q])
      · obtain ⟨k1, k2⟩ := ok2 q
        refine r_aload_n (pc := 77) (i := 0) (tX11_resistance.at 42 rfl) rfl rfl ?_
        refine r_aload_n (pc := 78) (i := 0) (tX11_resistance.at 43 rfl) rfl rfl ?_
        refine r_get (pc := 79) (tX11_resistance.at 44 rfl) gf_X11_228 (mH_0) rfl ?_
        refine r_aload_n (pc := 82) (i := 0) (tX11_resistance.at 45 rfl) rfl rfl ?_
        refine r_get (pc := 83) (tX11_resistance.at 46 rfl) gf_X11_232 (mH_0) rfl ?_
        refine r_eq rfl (st2 := [.long (lI (rqD G.W G.n i j)), .long (lI (rqN G.W G.n i j)), .ref m]) (by rw [← a2, ← b2]; rfl) ?_
        refine r_lload (pc := 86) (i := 5) (tX11_resistance.at 47 rfl) rfl ?_
        first | refine r_lmulL (pc := 88) (tX11_resistance.at 48 rfl) ?_ | refine r_lmul (pc := 88) (tX11_resistance.at 48 rfl) ?_
        refine r_callV (M' := mX11_fraction) (pc := 89) (tX11_resistance.at 49 rfl) ml_X11_245 rfl mw_X11_fraction ⟨by decide, by decide⟩ (mH_0) rfl rfl (c_mFrac k1 k2) rfl rfl (Nat.le_of_ble_eq_true rfl) (Nat.le_of_ble_eq_true rfl) (Nat.le_of_ble_eq_true rfl) ?_
        rintro _ _ _ ⟨rfl, rfl, rfl⟩
        exact fin _ ⟨⟨⟨rfl, rfl, rfl, rfl⟩, rfl, rfl⟩, rfl, rfl, rfl, rfl⟩ (by rw [rqA, if_neg q]; rfl) (by rw [rqB, if_neg q]; rfl)
    · intro u hu ih
      have hd := degN_le (x := u) h6 (by omega) hr.2.1.w9
      rw [sdS] at ih
      have hb : Bool.toNat ((rcm G.W G.n i).testBit u) ≤ 1 := Bool.toNat_le _
      refine r_iload (pc := 30) (i := 7) (tX11_resistance.at 19 rfl) rfl ?_
      refine r_aload_n (pc := 32) (i := 0) (tX11_resistance.at 20 rfl) rfl rfl ?_
      refine r_callV (M' := mX11_count) (pc := 33) (tX11_resistance.at 21 rfl) ml_X11_218 rfl mw_X11_count ⟨by decide, by decide⟩ (mH_0) rfl rfl (c_mCount hg2.1) rfl rfl (Nat.le_of_ble_eq_true rfl) (Nat.le_of_ble_eq_true rfl) (Nat.le_of_ble_eq_true rfl) ?_
      rintro _ _ _ ⟨rfl, rfl, rfl⟩
      rw [hg2.2.1]
      refine r_icmp_geN (pc := 36) 72 (tX11_resistance.at 22 rfl) (by decide) (by omega) (by omega) (fun c => by omega) (fun _ => ?_)
      refine r_lload (pc := 39) (i := 5) (tX11_resistance.at 23 rfl) rfl ?_
      refine r_iload (pc := 41) (i := 4) (tX11_resistance.at 24 rfl) rfl ?_
      refine r_iload (pc := 43) (i := 7) (tX11_resistance.at 25 rfl) rfl ?_
      refine r_callS (M' := mX11_has) (pc := 45) (tX11_resistance.at 26 rfl) ml_X11_221 rfl mw_X11_has ⟨by decide, by decide⟩ (c_mHas hR (show u < 8 by omega)) rfl rfl (Nat.le_of_ble_eq_true rfl) (Nat.le_of_ble_eq_true rfl) (Nat.le_of_ble_eq_true rfl) ?_
      rintro _ _ _ ⟨rfl, rfl, rfl⟩
      refine r_if_eqN (pc := 48) 62 (tX11_resistance.at 27 rfl) (by decide) (by omega) (fun q => ?_) (fun q => ?_)
      · rw [if_neg (by rw [tbF q]; simp)] at ih
        refine r_lconst (pc := 62) (w := lI 0) (tX11_resistance.at 34 rfl) (by decide) ?_
        refine r_laddL (pc := 63) (tX11_resistance.at 35 rfl) ?_
        rw [Int.add_zero]
        refine r_lstore (pc := 64) (i := 5) (tX11_resistance.at 36 rfl) (by decide) ?_
        first | refine r_iincN (pc := 66) (tX11_resistance.at 37 rfl) rfl (by decide) ?_ | refine r_iinc (pc := 66) (tX11_resistance.at 37 rfl) rfl rfl (by decide) ?_
        refine r_goto (pc := 69) 30 (tX11_resistance.at 38 rfl) (by decide) ?_
        exact ih
      · rw [if_pos (tbT q)] at ih
        refine r_aload_n (pc := 51) (i := 0) (tX11_resistance.at 28 rfl) rfl rfl ?_
        refine r_get (pc := 52) (tX11_resistance.at 29 rfl) gf_X11_29 (mH_0) rfl ?_
        refine r_iload (pc := 55) (i := 7) (tX11_resistance.at 30 rfl) rfl ?_
        refine r_iald (pc := 57) (tX11_resistance.at 31 rfl) (mH_dgs) (u) (rfl) (by omega) (Nat.le_of_ble_eq_true rfl) ?_
        refine r_eq rfl (st2 := [.int (nI (degN G.W u G.n)), .long (lI ((sdS G.W G.n (rcm G.W G.n i) u : Nat) : Int))]) (by rw [← hl2.2 u (by omega)]; rfl) ?_
        first | refine r_i2lN (pc := 58) (tX11_resistance.at 32 rfl) (by omega) ?_ | refine r_i2lZ (pc := 58) (tX11_resistance.at 32 rfl) ⟨by omega, by omega⟩ ?_ | refine r_i2l (pc := 58) (tX11_resistance.at 32 rfl) ?_
        refine r_goto (pc := 59) 63 (tX11_resistance.at 33 rfl) (by decide) ?_
        first | refine r_laddL (pc := 63) (tX11_resistance.at 35 rfl) ?_ | refine r_ladd (pc := 63) (tX11_resistance.at 35 rfl) ?_
        rw [show ((sdS G.W G.n (rcm G.W G.n i) u : Nat) : Int) + (degN G.W u G.n : Nat) = ((sdS G.W G.n (rcm G.W G.n i) u + degN G.W u G.n : Nat) : Int) by omega]
        refine r_lstore (pc := 64) (i := 5) (tX11_resistance.at 36 rfl) (by decide) ?_
        first | refine r_iincN (pc := 66) (tX11_resistance.at 37 rfl) rfl (by decide) ?_ | refine r_iinc (pc := 66) (tX11_resistance.at 37 rfl) rfl rfl (by decide) ?_
        refine r_goto (pc := 69) 30 (tX11_resistance.at 38 rfl) (by decide) ?_
        exact ih
  · rw [decide_eq_false c, Bool.toNat_false]
    refine r_if_neN (pc := 6) 11 (tX11_resistance.at 4 rfl) (by decide) (by omega) (fun c => by omega) (fun _ => ?_)
    refine r_lconst (pc := 9) (w := lI 0) (tX11_resistance.at 5 rfl) (by decide) ?_
    refine r_lret (pc := 10) (tX11_resistance.at 6 rfl) rfl (Nat.le_of_ble_eq_true rfl) (Nat.le_of_ble_eq_true rfl) ?_
    subst hPo
    exact ⟨by rw [lT, if_neg c]; rfl, rfl, S1, rfl, p1, t1⟩
theorem bs_pm1 : ∀ n, n < 7 → (nI 1 <<< (nI n &&& 31)) - nI 1 = nI (2 ^ n - 1) := by decide +kernel
theorem c_mTrees0 (hr : RW S G cn cc) (ok : G.n ≠ 0 → okTr G.W G.n) : Cal v mX11_treesNow 5 0 0 [.ref m] (mH v h m S) top (fun r h' top' => r = some (.long (lI (trD G.W G.n))) ∧ top = top' ∧ ∃ S', h' = mH v h m S' ∧ per S S' ∧ S'.thr = S.thr) noX := by
  have h6 := hr.2.1.1.1
  refine Cal.ofJ (by decide +kernel) rfl (Nat.le_of_ble_eq_true rfl) fun hz0 => ?_
  refine r_ls [some (.ref m)] rfl ?_
  generalize hPo : (fun (r : Option Value) (h' : Hp) (top' : Nat) => r = some (.long (lI (trD G.W G.n))) ∧ top = top' ∧ ∃ S', h' = mH v h m S' ∧ per S S' ∧ S'.thr = S.thr) = Po
  refine r_aload_n (pc := 0) (i := 0) (tX11_treesNow.at 0 rfl) rfl rfl ?_
  refine r_callV (M' := mX11_lays) (pc := 1) (tX11_treesNow.at 1 rfl) ml_X11_268 rfl mw_X11_lays ⟨by decide, by decide⟩ (mH_0) rfl rfl ((c_mLays hr)) rfl rfl (Nat.le_of_ble_eq_true rfl) (Nat.le_of_ble_eq_true rfl) (Nat.le_of_ble_eq_true rfl) ?_
  rintro _ _ _ ⟨rfl, rfl, S1, rfl, p1, t1, l1⟩
  have g1 := p1.rwG hr.1
  refine r_aload_n (pc := 4) (i := 0) (tX11_treesNow.at 2 rfl) rfl rfl ?_
  refine r_callV (M' := mX11_count) (pc := 5) (tX11_treesNow.at 3 rfl) ml_X11_218 rfl mw_X11_count ⟨by decide, by decide⟩ (mH_0) rfl rfl (c_mCount g1.1) rfl rfl (Nat.le_of_ble_eq_true rfl) (Nat.le_of_ble_eq_true rfl) (Nat.le_of_ble_eq_true rfl) ?_
  rintro _ _ _ ⟨rfl, rfl, rfl⟩
  rw [g1.2.1]
  by_cases c : G.n = 0
  · refine r_if_neN (pc := 8) 13 (tX11_treesNow.at 4 rfl) (by decide) (by omega) (fun c => by omega) (fun _ => ?_)
    refine r_lconst (pc := 11) (w := lI 0) (tX11_treesNow.at 5 rfl) (by decide) ?_
    refine r_lret (pc := 12) (tX11_treesNow.at 6 rfl) rfl (Nat.le_of_ble_eq_true rfl) (Nat.le_of_ble_eq_true rfl) ?_
    subst hPo
    exact ⟨by rw [trD, if_pos c], rfl, S1, rfl, p1, t1⟩
  · refine r_if_neN (pc := 8) 13 (tX11_treesNow.at 4 rfl) (by decide) (by omega) (fun _ => ?_) (fun c => by omega)
    refine r_aload_n (pc := 13) (i := 0) (tX11_treesNow.at 7 rfl) rfl rfl ?_
    refine r_iconst (pc := 14) (w := nI 1) (tX11_treesNow.at 8 rfl) (by decide) ?_
    refine r_aload_n (pc := 15) (i := 0) (tX11_treesNow.at 9 rfl) rfl rfl ?_
    refine r_callV (M' := mX11_count) (pc := 16) (tX11_treesNow.at 10 rfl) ml_X11_218 rfl mw_X11_count ⟨by decide, by decide⟩ (mH_0) rfl rfl (c_mCount g1.1) rfl rfl (Nat.le_of_ble_eq_true rfl) (Nat.le_of_ble_eq_true rfl) (Nat.le_of_ble_eq_true rfl) ?_
    rintro _ _ _ ⟨rfl, rfl, rfl⟩
    rw [g1.2.1]
    refine r_ishl (pc := 19) (tX11_treesNow.at 11 rfl) ?_
    refine r_iconst (pc := 20) (w := nI 1) (tX11_treesNow.at 12 rfl) (by decide) ?_
    refine r_isub (pc := 21) (tX11_treesNow.at 13 rfl) ?_
    rw [bs_pm1 G.n (by omega)]
    have hp := p64 h6
    refine r_iconst (pc := 22) (w := nI 1) (tX11_treesNow.at 14 rfl) (by decide) ?_
    refine r_callV (M' := mX11_begins) (pc := 23) (tX11_treesNow.at 15 rfl) ml_X11_252 rfl mw_X11_begins ⟨by decide, by decide⟩ (mH_0) rfl rfl ((c_mBegins (A := 2 ^ G.n - 1) (T := 1) g1 l1 h6 (by omega) (by omega) hr.2.1.w9)) rfl rfl (Nat.le_of_ble_eq_true rfl) (Nat.le_of_ble_eq_true rfl) (Nat.le_of_ble_eq_true rfl) ?_
    rintro _ _ _ ⟨rfl, rfl, S2, rfl, p2, ms⟩
    refine r_aload_n (pc := 26) (i := 0) (tX11_treesNow.at 16 rfl) rfl rfl ?_
    refine r_iconst (pc := 27) (w := zI (-1)) (tX11_treesNow.at 17 rfl) (by decide) ?_
    refine r_callV (M' := mX11_determinantWith) (pc := 28) (tX11_treesNow.at 18 rfl) ml_X11_242 rfl mw_X11_determinantWith ⟨by decide, by decide⟩ (mH_0) rfl rfl ((c_mDetW (z := -1) ms h6 ⟨by omega, by omega⟩ (ok c))) rfl rfl (Nat.le_of_ble_eq_true rfl) (Nat.le_of_ble_eq_true rfl) (Nat.le_of_ble_eq_true rfl) ?_
    rintro _ _ _ ⟨rfl, rfl, q, rfl⟩
    refine r_lret (pc := 31) (tX11_treesNow.at 19 rfl) rfl (Nat.le_of_ble_eq_true rfl) (Nat.le_of_ble_eq_true rfl) ?_
    subst hPo
    exact ⟨by rw [trD, if_neg c]; rfl, rfl, _, rfl, per.trans p1 (per.trans p2.1 ⟨⟨rfl, rfl, rfl, rfl⟩, rfl, rfl⟩), p2.2.1.trans t1⟩
theorem c_mTrees (hr : RW S G cn cc) (ok : G.n ≠ 0 → okTr G.W G.n) : Cal v mX11_trees 6 0 0 [.ref m] (mH v h m S) top (pA v h m S top (.long (lI (trD G.W G.n))) 0) noX := by
  refine Cal.ofJ (by decide +kernel) rfl (Nat.le_of_ble_eq_true rfl) fun hz0 => ?_
  refine r_ls [some (.ref m)] rfl ?_
  refine r_aload_n (pc := 0) (i := 0) (tX11_trees.at 0 rfl) rfl rfl ?_
  refine r_iconst (pc := 1) (w := nI 0) (tX11_trees.at 1 rfl) (by decide) ?_
  refine r_put (pc := 2) (tX11_trees.at 2 rfl) pf_X11_55 (mH_0) (Nat.le_of_ble_eq_true rfl) (rfl) (rfl) ?_
  refine r_eq (h2 := mH v h m (S.s_thr 0)) (mH_p0 (S' := S.s_thr 0) rfl) rfl ?_
  generalize hPo : pA v h m S top (.long (lI (trD G.W G.n))) 0 = Po
  refine r_aload_n (pc := 5) (i := 0) (tX11_trees.at 3 rfl) rfl rfl ?_
  refine r_callV (M' := mX11_treesNow) (pc := 6) (tX11_trees.at 4 rfl) ml_X11_297 rfl mw_X11_treesNow ⟨by decide, by decide⟩ (mH_0) rfl rfl ((c_mTrees0 (S := S.s_thr 0) ((per0 S 0).RW hr) ok)) rfl rfl (Nat.le_of_ble_eq_true rfl) (Nat.le_of_ble_eq_true rfl) (Nat.le_of_ble_eq_true rfl) ?_
  rintro _ _ _ ⟨rfl, rfl, S1, rfl, p1, t1⟩
  refine r_lret (pc := 9) (tX11_trees.at 5 rfl) rfl (Nat.le_of_ble_eq_true rfl) (Nat.le_of_ble_eq_true rfl) ?_
  subst hPo
  exact ⟨rfl, rfl, S1, rfl, per.trans (per0 S 0) p1, t1⟩
end

