/-! ===== the reference: blocks' changes, append ===== -/
theorem mev_cong {kd kd2 wi wi2 : Nat → Nat} {wt x y : Nat} : ∀ k, (∀ j, j < k → kd j = kd2 j ∧ wi j = wi2 j) → mev kd wi wt x y k = mev kd2 wi2 wt x y k
  | 0, _ => rfl
  | k + 1, h => by
    rw [mev, mev, mev_cong k (fun j hj => h j (by omega)), (h k (by omega)).1, (h k (by omega)).2]
/-- the codes stand in the row's end -/
theorem cd_row {S S' : MS} (h : ∀ k, k < 1240 → (k = 3 ∨ 56 ≤ k) → S'.rw k = S.rw k) (ok : okCd S) : okCd S' ∧ ∀ wt x y, S'.mcs wt x y = S.mcs wt x y := by
  obtain ⟨o1, o2, o3⟩ := ok
  have e3 : S'.rw 3 = S.rw 3 := h 3 (by omega) (Or.inl rfl)
  have ek : ∀ k, k < S.rw 3 → S'.ckd k = S.ckd k ∧ S'.cwi k = S.cwi k := fun k hk => ⟨h _ (by omega) (by omega), h _ (by omega) (by omega)⟩
  refine ⟨⟨by rw [e3]; exact o1, fun k hk => ?_, fun k wt x y hk hkk => ?_⟩, fun wt x y => ?_⟩
  · rw [e3] at hk
    rw [(ek k hk).1, (ek k hk).2]
    exact o2 k hk
  · rw [e3] at hk
    rw [mev_cong k (fun j hj => ek j (by omega))]
    rw [(ek k hk).1] at hkk
    exact o3 k wt x y hk hkk
  · unfold MS.mcs
    rw [e3, mev_cong (S.rw 3) ek]
theorem RW.row {S S' : MS} {G G' : GT} {cn : Nat} {cc : Nat → Int} (hn : S'.now < 9) (hr : RW S G cn cc) (h : ∀ k, k < 1240 → (k < 49 ∨ 55 ≤ k) → S'.rw k = S.rw k) (hl : ∀ k, k < G.n → S'.rw (49 + k) = G'.B k) (e : G'.n = G.n ∧ G'.e = G.e ∧ G'.a = G.a ∧ G'.L = G.L ∧ G'.H = G.H ∧ G'.W = G.W) (ok : okG G') : RW S' G' cn cc := by
  obtain ⟨⟨g1, g2, g3, g4, g5, g6⟩, ⟨w1, w2, w3, w4, w5, w6⟩, c1, c2⟩ := hr
  obtain ⟨e1, e2, e3, e4, e5, e6⟩ := e
  have h15 := w1.2.1
  obtain ⟨d1, d2⟩ := cd_row (S := S) (S' := S') (fun k hk hkk => h k hk (by omega)) c1
  refine ⟨⟨hn, ?_, ?_, ?_, fun i hi => ?_, fun k hk => ?_⟩, ⟨ok, ?_⟩, d1, fun x y hx hy => ?_⟩
  · rw [h 0 (by omega) (by omega), e1, g2]
  · rw [h 1 (by omega) (by omega), e2, g3]
  · rw [h 2 (by omega) (by omega), e3, g4]
  · rw [e2] at hi
    rw [h _ (by omega) (by omega), h _ (by omega) (by omega), h _ (by omega) (by omega), e4, e5, e6]
    exact g5 i hi
  · rw [e1] at hk
    exact hl k hk
  · rw [e1, e2, e4, e5, e6]
    exact ⟨w2, w3, w4, w5, w6⟩
  · rw [d2, e6, c2 x y hx hy]
def jnF (f : Nat → Nat) (i j u : Nat) : Nat → Nat := fun k => if (49 ≤ k ∧ k < 49 + u) ∧ f k = f (49 + j) then f (49 + i) else f k
def lbF (f : Nat → Nat) (n : Nat) (B : Nat → Nat) : Nat → Nat := fun k => if 49 ≤ k ∧ k < 49 + n then B (k - 49) else f k
def apX (b : Nat → Nat) (n : Nat) (wk : Nat → Int32) : Nat → Nat → Nat
  | 0 => b
  | k + 1 => upN (apX b n wk k) (n + k) (uB (wk k >>> (nI (24 - 8 * (k % 4)) &&& 31)))
def wk5 (w0 w1 w2 w3 w4 : Int32) (k : Nat) : Int32 := if k < 4 then w0 else if k < 8 then w1 else if k < 12 then w2 else if k < 16 then w3 else w4
theorem ap5_X (b : Nat → Nat) (n : Nat) (w0 w1 w2 w3 w4 : Int32) : apX b n (wk5 w0 w1 w2 w3 w4) 20 = ap5 b n w0 w1 w2 w3 w4 := rfl
section
variable {v : Ev} {h : Hp} {top m : Nat} {S : MS} {G : GT} {cn : Nat} {cc : Nat → Int}
theorem nbF_le {f : Nat → Nat} (h6 : f 0 ≤ 6) {k : Nat} (hk : k < f 0) : nbF f (49 + k) ≤ 6 := by
  unfold nbF
  rw [if_pos (by omega), show 49 + k - 49 = k by omega]
  have h1 := (grp_le (qB fun j => f (49 + j)) (fun _ => 0) (f 0)).2 k hk
  have h2 := (grp_le (qB fun j => f (49 + j)) (fun _ => 0) (f 0)).1
  unfold nmG
  omega
/-- numbering and counting -/
theorem c_mNum2 {S0 : MS} {f : Nat → Nat} (hn0 : S0.now < 9) (c : chd S0 S f) (h6 : f 0 ≤ 6) (hB : ∀ k, k < f 0 → f (49 + k) ≤ 6) : Cal v mX11_numbers 3 0 0 [.ref m] (mH v h m S) top (pV (mH v h m S.nmb) top) noX ∧ Cal v mX11_blocksNow 3 0 0 [.ref m] (mH v h m S.nmb) top (pR (.int (nI (bkM (fun k => nbF f (49 + k)) (f 0)))) (mH v h m S.nmb) top) noX := by
  have hn : S.now < 9 := by rw [c.2.1]; omega
  have e0 : S.rw 0 = f 0 := c.2.2.2.1 0 (by omega)
  have c2 := c.nmb hn0 h6
  have e1 : S.nmb.rw 0 = f 0 := by
    rw [c2.2.2.2.1 0 (by omega)]
    unfold nbF
    rw [if_neg (by omega)]
  refine ⟨c_mNumb hn (by omega) (fun k hk => ?_), ?_⟩
  · rw [e0] at hk
    show S.rw (49 + k) ≤ 6
    rw [c.2.2.2.1 (49 + k) (by omega)]
    exact hB k hk
  · have hlab : ∀ k, k < f 0 → S.nmb.lab k = nbF f (49 + k) := fun k hk => c2.2.2.2.1 (49 + k) (by omega)
    have cb := c_mBlocks (v := v) (h := h) (top := top) (m := m) (S := S.nmb) (by rw [c2.2.1]; omega) (by omega) (fun k hk => by
      rw [e1] at hk
      rw [hlab k hk]
      exact nbF_le h6 hk)
    rw [e1, bkM_cong (f 0) hlab] at cb
    exact cb
theorem c_mJoin {z y : Int} (hr : RW S G cn cc) (hu : S.und ≤ 8) (hz : inI z) (hy : inI y) : Cal v mX11_join 6 0 0 [.ref m, .int (zI z), .int (zI y)] (mH v h m S) top (pCg v h m S top (iT (if vtT G z = 0 then vtT G y else 1) (nI (bkM (fun k => nbF (jnF S.rw z.toNat y.toNat G.n) (49 + k)) G.n))) (if vtT G z = 0 then vtT G y else 1) (nbF (jnF S.rw z.toNat y.toNat G.n))) noX := by
  have h6 := hr.2.1.1.1
  have hg := hr.1
  have hB : ∀ k, k < G.n → G.B k ≤ 6 := fun k hk => hr.2.1.1.2.2.2.1 k (by omega)
  refine Cal.ofJ (by decide +kernel) rfl (Nat.le_of_ble_eq_true rfl) fun hz0 => ?_
  refine r_ls [some (.ref m), some (.int (zI z)), some (.int (zI y)), none, none, none] rfl ?_
  generalize ht : (if vtT G z = 0 then vtT G y else 1) = t
  generalize hPo : pCg v h m S top (iT t _) t _ = Po
  refine r_aload_n (pc := 0) (i := 0) (tX11_join.at 0 rfl) rfl rfl ?_
  refine r_iload_n (pc := 1) (i := 1) (tX11_join.at 1 rfl) rfl rfl ?_
  refine r_iload_n (pc := 2) (i := 2) (tX11_join.at 2 rfl) rfl rfl ?_
  refine r_callV (M' := mX11_starts2) (pc := 3) (tX11_join.at 3 rfl) ml_X11_277 rfl mw_X11_starts2 ⟨by decide, by decide⟩ (mH_0) rfl rfl ((c_mStarts2 hr hz hy)) rfl rfl (Nat.le_of_ble_eq_true rfl) (Nat.le_of_ble_eq_true rfl) (Nat.le_of_ble_eq_true rfl) ?_
  rw [ht]
  rintro _ _ _ ⟨rfl, rfl, S1, rfl, p1, t1, l1⟩
  by_cases c : t = 0
  · rw [decide_eq_true c, Bool.toNat_true]
    refine r_if_neN (pc := 6) 11 (tX11_join.at 4 rfl) (by decide) (by omega) (fun _ => ?_) (fun c => by omega)
    have cz : vtT G z = 0 := by
      by_cases q : vtT G z = 0
      · exact q
      · rw [if_neg q] at ht; omega
    have cy : vtT G y = 0 := by rw [if_pos cz] at ht; omega
    obtain ⟨i, rfl, hi⟩ := vt_nat cz
    obtain ⟨j, rfl, hj⟩ := vt_nat cy
    rw [Int.toNat_natCast, Int.toNat_natCast] at *
    rw [zI_nat, zI_nat] at *
    have g1 := p1.rwG hr.1
    have hu1 : S1.und ≤ 8 := by rw [p1.1.2.1]; exact hu
    have k1 := chd_chg hg.1 p1
    have hn1 : S1.chg.now < 9 := by rw [k1.2.1]; omega
    have ei : S.rw (49 + i) = G.B i := hg.lab hi
    have ej : S.rw (49 + j) = G.B j := hg.lab hj
    have hBi := hB i hi
    have hBj := hB j hj
    refine r_aload_n (pc := 11) (i := 0) (tX11_join.at 7 rfl) rfl rfl ?_
    refine r_callV (M' := mX11_change) (pc := 12) (tX11_join.at 8 rfl) ml_X11_197 rfl mw_X11_change ⟨by decide, by decide⟩ (mH_0) rfl rfl (c_mChange (S := S1) g1.1 hu1) rfl rfl (Nat.le_of_ble_eq_true rfl) (Nat.le_of_ble_eq_true rfl) (Nat.le_of_ble_eq_true rfl) ?_
    rintro _ _ _ ⟨rfl, rfl, rfl⟩
    refine r_aload_n (pc := 15) (i := 0) (tX11_join.at 9 rfl) rfl rfl ?_
    refine r_bipush (pc := 16) (w := nI 49) (tX11_join.at 10 rfl) (by decide) ?_
    refine r_iload_n (pc := 18) (i := 2) (tX11_join.at 11 rfl) rfl rfl ?_
    first | refine r_iaddN (pc := 19) (tX11_join.at 12 rfl) ?_ | refine r_iaddZ (pc := 19) (tX11_join.at 12 rfl) ?_ | refine r_iadd (pc := 19) (tX11_join.at 12 rfl) ?_
    refine r_callV (M' := mX11_get) (pc := 20) (tX11_join.at 13 rfl) ml_X11_61 rfl mw_X11_get ⟨by decide, by decide⟩ (mH_0) rfl rfl (c_mGet (S := S1.chg) (k := 49 + j) hn1 (by omega)) rfl rfl (Nat.le_of_ble_eq_true rfl) (Nat.le_of_ble_eq_true rfl) (Nat.le_of_ble_eq_true rfl) ?_
    rintro _ _ _ ⟨rfl, rfl, rfl⟩
    rw [show S1.chg.rw (49 + j) = G.B j from (k1.2.2.2.1 _ (by omega)).trans ej]
    refine r_istore_n (pc := 23) (i := 3) (tX11_join.at 14 rfl) rfl (by decide) ?_
    refine r_aload_n (pc := 24) (i := 0) (tX11_join.at 15 rfl) rfl rfl ?_
    refine r_bipush (pc := 25) (w := nI 49) (tX11_join.at 16 rfl) (by decide) ?_
    refine r_iload_n (pc := 27) (i := 1) (tX11_join.at 17 rfl) rfl rfl ?_
    first | refine r_iaddN (pc := 28) (tX11_join.at 18 rfl) ?_ | refine r_iaddZ (pc := 28) (tX11_join.at 18 rfl) ?_ | refine r_iadd (pc := 28) (tX11_join.at 18 rfl) ?_
    refine r_callV (M' := mX11_get) (pc := 29) (tX11_join.at 19 rfl) ml_X11_61 rfl mw_X11_get ⟨by decide, by decide⟩ (mH_0) rfl rfl (c_mGet (S := S1.chg) (k := 49 + i) hn1 (by omega)) rfl rfl (Nat.le_of_ble_eq_true rfl) (Nat.le_of_ble_eq_true rfl) (Nat.le_of_ble_eq_true rfl) ?_
    rintro _ _ _ ⟨rfl, rfl, rfl⟩
    rw [show S1.chg.rw (49 + i) = G.B i from (k1.2.2.2.1 _ (by omega)).trans ei]
    refine r_istore (pc := 32) (i := 4) (tX11_join.at 20 rfl) (by decide) ?_
    refine r_iconst (pc := 34) (w := nI 0) (tX11_join.at 21 rfl) (by decide) ?_
    refine r_istore (pc := 35) (i := 5) (tX11_join.at 22 rfl) (by decide) ?_
    have key : ∀ q u S2, u + q = G.n → S2.thr = 0 → chd S S2 (jnF S.rw i j u) → J v mX11_join (rmOf 6 0 0) (KM v Po noX 0 0) top 0 0 (mH v h m S2) top 37 [some (.ref m), some (.int (nI i)), some (.int (nI j)), some (.int (nI (G.B j))), some (.int (nI (G.B i))), some (.int (nI u))] [] := by
      intro q
      induction q with
      | zero =>
        intro u S2 huq t2 c2
        have huq : u = G.n := by omega
        subst huq
        have hn2 : S2.now < 9 := by rw [c2.2.1]; omega
        have e0 : jnF S.rw i j G.n 0 = G.n := by
          unfold jnF
          rw [if_neg (by omega)]
          exact hg.2.1
        obtain ⟨cN, cB⟩ := c_mNum2 (v := v) (h := h) (top := top) (m := m) hg.1 c2 (by omega) (fun k hk => by
          rw [e0] at hk
          unfold jnF
          split
          · omega
          · rw [hg.lab hk]
            exact hB k hk)
        rw [e0] at cB
        refine r_iload (pc := 37) (i := 5) (tX11_join.at 23 rfl) rfl ?_
        refine r_aload_n (pc := 39) (i := 0) (tX11_join.at 24 rfl) rfl rfl ?_
        refine r_callV (M' := mX11_count) (pc := 40) (tX11_join.at 25 rfl) ml_X11_218 rfl mw_X11_count ⟨by decide, by decide⟩ (mH_0) rfl rfl (c_mCount (S := S2) hn2) rfl rfl (Nat.le_of_ble_eq_true rfl) (Nat.le_of_ble_eq_true rfl) (Nat.le_of_ble_eq_true rfl) ?_
        rintro _ _ _ ⟨rfl, rfl, rfl⟩
        rw [c2.2.2.2.1 0 (by omega), e0]
        refine r_icmp_geN (pc := 43) 76 (tX11_join.at 26 rfl) (by decide) (by omega) (by omega) (fun _ => ?_) (fun c => by omega)
        refine r_aload_n (pc := 76) (i := 0) (tX11_join.at 42 rfl) rfl rfl ?_
        refine r_callV (M' := mX11_numbers) (pc := 77) (tX11_join.at 43 rfl) ml_X11_203 rfl mw_X11_numbers ⟨by decide, by decide⟩ (mH_0) rfl rfl (cN) rfl rfl (Nat.le_of_ble_eq_true rfl) (Nat.le_of_ble_eq_true rfl) (Nat.le_of_ble_eq_true rfl) ?_
        rintro _ _ _ ⟨rfl, rfl, rfl⟩
        refine r_aload_n (pc := 80) (i := 0) (tX11_join.at 44 rfl) rfl rfl ?_
        refine r_callV (M' := mX11_blocksNow) (pc := 81) (tX11_join.at 45 rfl) ml_X11_307 rfl mw_X11_blocksNow ⟨by decide, by decide⟩ (mH_0) rfl rfl (cB) rfl rfl (Nat.le_of_ble_eq_true rfl) (Nat.le_of_ble_eq_true rfl) (Nat.le_of_ble_eq_true rfl) ?_
        rintro _ _ _ ⟨rfl, rfl, rfl⟩
        refine r_iret (pc := 84) (tX11_join.at 46 rfl) rfl (Nat.le_of_ble_eq_true rfl) (Nat.le_of_ble_eq_true rfl) ?_
        subst hPo
        exact ⟨by rw [iT, if_pos c], rfl, _, rfl, by rw [c]; exact t2, fun q => absurd c q, fun _ => c2.nmb hg.1 (by omega)⟩
      | succ q ih =>
        intro u S2 huq t2 c2
        have hn2 : S2.now < 9 := by rw [c2.2.1]; omega
        have e0 : S2.rw 0 = G.n := by
          rw [c2.2.2.2.1 0 (by omega)]
          unfold jnF
          rw [if_neg (by omega)]
          exact hg.2.1
        have eu : S2.rw (49 + u) = G.B u := by
          rw [c2.2.2.2.1 (49 + u) (by omega)]
          unfold jnF
          rw [if_neg (by omega)]
          exact hg.lab (by omega)
        have hBu := hB u (by omega)
        refine r_iload (pc := 37) (i := 5) (tX11_join.at 23 rfl) rfl ?_
        refine r_aload_n (pc := 39) (i := 0) (tX11_join.at 24 rfl) rfl rfl ?_
        refine r_callV (M' := mX11_count) (pc := 40) (tX11_join.at 25 rfl) ml_X11_218 rfl mw_X11_count ⟨by decide, by decide⟩ (mH_0) rfl rfl (c_mCount (S := S2) hn2) rfl rfl (Nat.le_of_ble_eq_true rfl) (Nat.le_of_ble_eq_true rfl) (Nat.le_of_ble_eq_true rfl) ?_
        rintro _ _ _ ⟨rfl, rfl, rfl⟩
        rw [e0]
        refine r_icmp_geN (pc := 43) 76 (tX11_join.at 26 rfl) (by decide) (by omega) (by omega) (fun c => by omega) (fun _ => ?_)
        refine r_aload_n (pc := 46) (i := 0) (tX11_join.at 27 rfl) rfl rfl ?_
        refine r_bipush (pc := 47) (w := nI 49) (tX11_join.at 28 rfl) (by decide) ?_
        refine r_iload (pc := 49) (i := 5) (tX11_join.at 29 rfl) rfl ?_
        first | refine r_iaddN (pc := 51) (tX11_join.at 30 rfl) ?_ | refine r_iaddZ (pc := 51) (tX11_join.at 30 rfl) ?_ | refine r_iadd (pc := 51) (tX11_join.at 30 rfl) ?_
        refine r_callV (M' := mX11_get) (pc := 52) (tX11_join.at 31 rfl) ml_X11_61 rfl mw_X11_get ⟨by decide, by decide⟩ (mH_0) rfl rfl (c_mGet (S := S2) (k := 49 + u) hn2 (by omega)) rfl rfl (Nat.le_of_ble_eq_true rfl) (Nat.le_of_ble_eq_true rfl) (Nat.le_of_ble_eq_true rfl) ?_
        rintro _ _ _ ⟨rfl, rfl, rfl⟩
        refine r_iload_n (pc := 55) (i := 3) (tX11_join.at 32 rfl) rfl rfl ?_
        rw [eu]
        refine r_icmp_neN (pc := 56) 70 (tX11_join.at 33 rfl) (by decide) (by omega) (by omega) (fun q2 => ?_) (fun q2 => ?_)
        · first | refine r_iincN (pc := 70) (tX11_join.at 40 rfl) rfl (by decide) ?_ | refine r_iinc (pc := 70) (tX11_join.at 40 rfl) rfl rfl (by decide) ?_
          refine r_goto (pc := 73) 37 (tX11_join.at 41 rfl) (by decide) ?_
          refine ih (u + 1) S2 (by omega) t2 (c2.f (fun k hk => ?_))
          unfold jnF
          by_cases q3 : k = 49 + u
          · rw [q3, if_neg (by omega), if_neg]
            rw [hg.lab (show u < G.n by omega), ej]
            exact fun z => q2 z.2
          · by_cases q4 : (49 ≤ k ∧ k < 49 + u) ∧ S.rw k = S.rw (49 + j)
            · rw [if_pos q4, if_pos ⟨by omega, q4.2⟩]
            · rw [if_neg q4, if_neg (fun z => q4 ⟨by omega, z.2⟩)]
        · refine r_aload_n (pc := 59) (i := 0) (tX11_join.at 34 rfl) rfl rfl ?_
          refine r_bipush (pc := 60) (w := nI 49) (tX11_join.at 35 rfl) (by decide) ?_
          refine r_iload (pc := 62) (i := 5) (tX11_join.at 36 rfl) rfl ?_
          first | refine r_iaddN (pc := 64) (tX11_join.at 37 rfl) ?_ | refine r_iaddZ (pc := 64) (tX11_join.at 37 rfl) ?_ | refine r_iadd (pc := 64) (tX11_join.at 37 rfl) ?_
          refine r_iload (pc := 65) (i := 4) (tX11_join.at 38 rfl) rfl ?_
          refine r_callV (M' := mX11_put) (pc := 67) (tX11_join.at 39 rfl) ml_X11_200 rfl mw_X11_put ⟨by decide, by decide⟩ (mH_0) rfl rfl (c_mPut (S := S2) (k := 49 + u) (y := G.B i) hn2 (by omega)) rfl rfl (Nat.le_of_ble_eq_true rfl) (Nat.le_of_ble_eq_true rfl) (Nat.le_of_ble_eq_true rfl) ?_
          rintro _ _ _ ⟨rfl, rfl, rfl⟩
          first | refine r_iincN (pc := 70) (tX11_join.at 40 rfl) rfl (by decide) ?_ | refine r_iinc (pc := 70) (tX11_join.at 40 rfl) rfl rfl (by decide) ?_
          refine r_goto (pc := 73) 37 (tX11_join.at 41 rfl) (by decide) ?_
          refine ih (u + 1) _ (by omega) t2 ((c2.put hg.1 (by omega)).f (fun k hk => ?_))
          unfold jnF upN
          by_cases q3 : k = 49 + u
          · rw [if_pos q3, q3, if_pos]
            · exact ei.symm
            · rw [hg.lab (show u < G.n by omega), ej]
              exact ⟨by omega, q2⟩
          · rw [if_neg q3]
            show (if (49 ≤ k ∧ k < 49 + u) ∧ S.rw k = S.rw (49 + j) then S.rw (49 + i) else S.rw k) = _
            by_cases q4 : (49 ≤ k ∧ k < 49 + u) ∧ S.rw k = S.rw (49 + j)
            · rw [if_pos q4, if_pos ⟨by omega, q4.2⟩]
            · rw [if_neg q4, if_neg (fun z => q4 ⟨by omega, z.2⟩)]
    exact key G.n 0 S1.chg (by omega) (by rw [← c, ← t1]; rfl) (k1.f (fun k hk => by
      unfold jnF
      rw [if_neg (by omega)]))
  · rw [decide_eq_false c, Bool.toNat_false]
    refine r_if_neN (pc := 6) 11 (tX11_join.at 4 rfl) (by decide) (by omega) (fun c => by omega) (fun _ => ?_)
    refine r_iconst (pc := 9) (w := nI 0) (tX11_join.at 5 rfl) (by decide) ?_
    refine r_iret (pc := 10) (tX11_join.at 6 rfl) rfl (Nat.le_of_ble_eq_true rfl) (Nat.le_of_ble_eq_true rfl) ?_
    subst hPo
    exact ⟨by rw [iT, if_neg c]; rfl, rfl, S1, rfl, t1, fun _ => p1, fun q => absurd q c⟩
theorem c_mSepa {z : Int} (hr : RW S G cn cc) (hu : S.und ≤ 8) (hz : inI z) : Cal v mX11_separate 6 0 0 [.ref m, .int (zI z)] (mH v h m S) top (pCg v h m S top (iT (vtT G z) (nI (bkM (fun k => nbF (upN S.rw (49 + z.toNat) 6) (49 + k)) G.n))) (vtT G z) (nbF (upN S.rw (49 + z.toNat) 6))) noX := by
  have h6 := hr.2.1.1.1
  have hg := hr.1
  have hB : ∀ k, k < G.n → G.B k ≤ 6 := fun k hk => hr.2.1.1.2.2.2.1 k (by omega)
  refine Cal.ofJ (by decide +kernel) rfl (Nat.le_of_ble_eq_true rfl) fun hz0 => ?_
  refine r_ls [some (.ref m), some (.int (zI z))] rfl ?_
  generalize ht : vtT G z = t at *
  generalize hPo : pCg v h m S top (iT t _) t _ = Po
  refine r_aload_n (pc := 0) (i := 0) (tX11_separate.at 0 rfl) rfl rfl ?_
  refine r_iload_n (pc := 1) (i := 1) (tX11_separate.at 1 rfl) rfl rfl ?_
  refine r_callV (M' := mX11_starts) (pc := 2) (tX11_separate.at 2 rfl) ml_X11_274 rfl mw_X11_starts ⟨by decide, by decide⟩ (mH_0) rfl rfl ((c_mStarts hr hz)) rfl rfl (Nat.le_of_ble_eq_true rfl) (Nat.le_of_ble_eq_true rfl) (Nat.le_of_ble_eq_true rfl) ?_
  rw [ht]
  rintro _ _ _ ⟨rfl, rfl, S1, rfl, p1, t1, l1⟩
  by_cases c : t = 0
  · rw [decide_eq_true c, Bool.toNat_true]
    refine r_if_neN (pc := 5) 10 (tX11_separate.at 3 rfl) (by decide) (by omega) (fun _ => ?_) (fun c => by omega)
    rw [c] at ht
    obtain ⟨i, rfl, hi⟩ := vt_nat ht
    rw [Int.toNat_natCast] at *
    rw [zI_nat] at *
    have g1 := p1.rwG hr.1
    have hu1 : S1.und ≤ 8 := by rw [p1.1.2.1]; exact hu
    have k1 := chd_chg hg.1 p1
    have hn1 : S1.chg.now < 9 := by rw [k1.2.1]; omega
    have k2 := k1.put hg.1 (k := 49 + i) (y := 6) (by omega)
    have e0 : upN S.rw (49 + i) 6 0 = G.n := (upN_ne _ _ (by omega)).trans hg.2.1
    obtain ⟨cN, cB⟩ := c_mNum2 (v := v) (h := h) (top := top) (m := m) hg.1 k2 (by omega) (fun k hk => by
      rw [e0] at hk
      unfold upN
      split
      · omega
      · rw [hg.lab hk]
        exact hB k hk)
    rw [e0] at cB
    refine r_aload_n (pc := 10) (i := 0) (tX11_separate.at 6 rfl) rfl rfl ?_
    refine r_callV (M' := mX11_change) (pc := 11) (tX11_separate.at 7 rfl) ml_X11_197 rfl mw_X11_change ⟨by decide, by decide⟩ (mH_0) rfl rfl (c_mChange (S := S1) g1.1 hu1) rfl rfl (Nat.le_of_ble_eq_true rfl) (Nat.le_of_ble_eq_true rfl) (Nat.le_of_ble_eq_true rfl) ?_
    rintro _ _ _ ⟨rfl, rfl, rfl⟩
    refine r_aload_n (pc := 14) (i := 0) (tX11_separate.at 8 rfl) rfl rfl ?_
    refine r_bipush (pc := 15) (w := nI 49) (tX11_separate.at 9 rfl) (by decide) ?_
    refine r_iload_n (pc := 17) (i := 1) (tX11_separate.at 10 rfl) rfl rfl ?_
    first | refine r_iaddN (pc := 18) (tX11_separate.at 11 rfl) ?_ | refine r_iaddZ (pc := 18) (tX11_separate.at 11 rfl) ?_ | refine r_iadd (pc := 18) (tX11_separate.at 11 rfl) ?_
    refine r_bipush (pc := 19) (w := nI 6) (tX11_separate.at 12 rfl) (by decide) ?_
    refine r_callV (M' := mX11_put) (pc := 21) (tX11_separate.at 13 rfl) ml_X11_200 rfl mw_X11_put ⟨by decide, by decide⟩ (mH_0) rfl rfl (c_mPut (S := S1.chg) (k := 49 + i) (y := 6) hn1 (by omega)) rfl rfl (Nat.le_of_ble_eq_true rfl) (Nat.le_of_ble_eq_true rfl) (Nat.le_of_ble_eq_true rfl) ?_
    rintro _ _ _ ⟨rfl, rfl, rfl⟩
    refine r_aload_n (pc := 24) (i := 0) (tX11_separate.at 14 rfl) rfl rfl ?_
    refine r_callV (M' := mX11_numbers) (pc := 25) (tX11_separate.at 15 rfl) ml_X11_203 rfl mw_X11_numbers ⟨by decide, by decide⟩ (mH_0) rfl rfl (cN) rfl rfl (Nat.le_of_ble_eq_true rfl) (Nat.le_of_ble_eq_true rfl) (Nat.le_of_ble_eq_true rfl) ?_
    rintro _ _ _ ⟨rfl, rfl, rfl⟩
    refine r_aload_n (pc := 28) (i := 0) (tX11_separate.at 16 rfl) rfl rfl ?_
    refine r_callV (M' := mX11_blocksNow) (pc := 29) (tX11_separate.at 17 rfl) ml_X11_307 rfl mw_X11_blocksNow ⟨by decide, by decide⟩ (mH_0) rfl rfl (cB) rfl rfl (Nat.le_of_ble_eq_true rfl) (Nat.le_of_ble_eq_true rfl) (Nat.le_of_ble_eq_true rfl) ?_
    rintro _ _ _ ⟨rfl, rfl, rfl⟩
    refine r_iret (pc := 32) (tX11_separate.at 18 rfl) rfl (Nat.le_of_ble_eq_true rfl) (Nat.le_of_ble_eq_true rfl) ?_
    subst hPo
    exact ⟨by rw [iT, if_pos c], rfl, _, rfl, t1, fun q => absurd c q, fun _ => k2.nmb hg.1 (by omega)⟩
  · rw [decide_eq_false c, Bool.toNat_false]
    refine r_if_neN (pc := 5) 10 (tX11_separate.at 3 rfl) (by decide) (by omega) (fun c => by omega) (fun _ => ?_)
    refine r_iconst (pc := 8) (w := nI 0) (tX11_separate.at 4 rfl) (by decide) ?_
    refine r_iret (pc := 9) (tX11_separate.at 5 rfl) rfl (Nat.le_of_ble_eq_true rfl) (Nat.le_of_ble_eq_true rfl) ?_
    subst hPo
    exact ⟨by rw [iT, if_neg c]; rfl, rfl, S1, rfl, t1, fun _ => p1, fun q => absurd q c⟩
theorem c_mAppend {w0 w1 w2 w3 w4 : Int32} (hb : S.byt ≤ 600) : Cal v mX11_append 1 0 0 [.ref m, .int w0, .int w1, .int w2, .int w3, .int w4] (mH v h m S) top (fun r h' top' => r = some (.int (if S.byt ≤ 580 then nI (S.byt + 20) else zI (-1))) ∧ top = top' ∧ h' = mH v h m (if S.byt ≤ 580 then ((S.s_thr 0).s_txt (ap5 S.txt S.byt w0 w1 w2 w3 w4)).s_byt (S.byt + 20) else S.s_thr 0)) noX := by
  refine Cal.ofJ (by decide +kernel) rfl (Nat.le_of_ble_eq_true rfl) fun hz0 => ?_
  refine r_ls [some (.ref m), some (.int w0), some (.int w1), some (.int w2), some (.int w3), some (.int w4), none, none] rfl ?_
  generalize hPo : (fun (r : Option Value) (h' : Hp) (top' : Nat) => r = some (.int (if S.byt ≤ 580 then nI (S.byt + 20) else zI (-1))) ∧ top = top' ∧ h' = mH v h m (if S.byt ≤ 580 then ((S.s_thr 0).s_txt (ap5 S.txt S.byt w0 w1 w2 w3 w4)).s_byt (S.byt + 20) else S.s_thr 0)) = Po
  refine r_aload_n (pc := 0) (i := 0) (tX11_append.at 0 rfl) rfl rfl ?_
  refine r_iconst (pc := 1) (w := nI 0) (tX11_append.at 1 rfl) (by decide) ?_
  refine r_put (pc := 2) (tX11_append.at 2 rfl) pf_X11_55 (mH_0) (Nat.le_of_ble_eq_true rfl) (rfl) (rfl) ?_
  refine r_eq (h2 := mH v h m (S.s_thr 0)) (mH_p0 (S' := S.s_thr 0) rfl) rfl ?_
  refine r_aload_n (pc := 5) (i := 0) (tX11_append.at 3 rfl) rfl rfl ?_
  refine r_get (pc := 6) (tX11_append.at 4 rfl) gf_X11_68 (mH_0) rfl ?_
  refine r_eq rfl (st2 := [.int (nI S.byt)]) rfl ?_
  refine r_bipush (pc := 9) (w := nI 20) (tX11_append.at 5 rfl) (by decide) ?_
  first | refine r_iaddN (pc := 11) (tX11_append.at 6 rfl) ?_ | refine r_iaddZ (pc := 11) (tX11_append.at 6 rfl) ?_ | refine r_iadd (pc := 11) (tX11_append.at 6 rfl) ?_
  refine r_sipush (pc := 12) (w := nI 600) (tX11_append.at 7 rfl) (by decide) ?_
  refine r_icmp_leN (pc := 15) 20 (tX11_append.at 8 rfl) (by decide) (by omega) (by omega) (fun c => ?_) (fun c => ?_)
  · refine r_iconst (pc := 20) (w := nI 0) (tX11_append.at 11 rfl) (by decide) ?_
    refine r_istore (pc := 21) (i := 6) (tX11_append.at 12 rfl) (by decide) ?_
    have key : ∀ q k o7, k + q = 20 → J v mX11_append (rmOf 1 0 0) (KM v Po noX 0 0) top 0 0 (mH v h m ((S.s_thr 0).s_txt (apX S.txt S.byt (wk5 w0 w1 w2 w3 w4) k))) top 23 [some (.ref m), some (.int w0), some (.int w1), some (.int w2), some (.int w3), some (.int w4), some (.int (nI k)), o7] [] := by
      intro q
      induction q with
      | zero =>
        intro k o7 hk
        have hk : k = 20 := by omega
        subst hk
        refine r_iload (pc := 23) (i := 6) (tX11_append.at 13 rfl) rfl ?_
        refine r_bipush (pc := 25) (w := nI 20) (tX11_append.at 14 rfl) (by decide) ?_
        refine r_icmp_geN (pc := 27) 113 (tX11_append.at 15 rfl) (by decide) (by omega) (by omega) (fun _ => ?_) (fun c => by omega)
        refine r_aload_n (pc := 113) (i := 0) (tX11_append.at 58 rfl) rfl rfl ?_
        refine r_dup (pc := 114) (tX11_append.at 59 rfl) rfl ?_
        refine r_get (pc := 115) (tX11_append.at 60 rfl) gf_X11_68 (mH_0) rfl ?_
        refine r_eq rfl (st2 := [.int (nI S.byt), .ref m]) rfl ?_
        refine r_bipush (pc := 118) (w := nI 20) (tX11_append.at 61 rfl) (by decide) ?_
        first | refine r_iaddN (pc := 120) (tX11_append.at 62 rfl) ?_ | refine r_iaddZ (pc := 120) (tX11_append.at 62 rfl) ?_ | refine r_iadd (pc := 120) (tX11_append.at 62 rfl) ?_
        refine r_put (pc := 121) (tX11_append.at 63 rfl) pf_X11_68 (mH_0) (Nat.le_of_ble_eq_true rfl) (rfl) (rfl) ?_
        refine r_eq (h2 := mH v h m (((S.s_thr 0).s_txt (apX S.txt S.byt (wk5 w0 w1 w2 w3 w4) 20)).s_byt (S.byt + 20))) (mH_p0 (S' := ((S.s_thr 0).s_txt (apX S.txt S.byt (wk5 w0 w1 w2 w3 w4) 20)).s_byt (S.byt + 20)) rfl) rfl ?_
        refine r_aload_n (pc := 124) (i := 0) (tX11_append.at 64 rfl) rfl rfl ?_
        refine r_get (pc := 125) (tX11_append.at 65 rfl) gf_X11_68 (mH_0) rfl ?_
        refine r_eq rfl (st2 := [.int (nI (S.byt + 20))]) rfl ?_
        refine r_iret (pc := 128) (tX11_append.at 66 rfl) rfl (Nat.le_of_ble_eq_true rfl) (Nat.le_of_ble_eq_true rfl) ?_
        subst hPo
        refine ⟨by rw [if_pos (by omega)], rfl, ?_⟩
        rw [if_pos (by omega), ap5_X]
      | succ q ih =>
        intro k o7 hk
        have tail : ∀ w, w = wk5 w0 w1 w2 w3 w4 k → J v mX11_append (rmOf 1 0 0) (KM v Po noX 0 0) top 0 0 (mH v h m ((S.s_thr 0).s_txt (apX S.txt S.byt (wk5 w0 w1 w2 w3 w4) k))) top 76 [some (.ref m), some (.int w0), some (.int w1), some (.int w2), some (.int w3), some (.int w4), some (.int (nI k)), o7] [.int w] := by
          intro w hw
          refine r_istore (pc := 76) (i := 7) (tX11_append.at 37 rfl) (by decide) ?_
          refine r_aload_n (pc := 78) (i := 0) (tX11_append.at 38 rfl) rfl rfl ?_
          refine r_get (pc := 79) (tX11_append.at 39 rfl) gf_X11_16 (mH_0) rfl ?_
          refine r_aload_n (pc := 82) (i := 0) (tX11_append.at 40 rfl) rfl rfl ?_
          refine r_get (pc := 83) (tX11_append.at 41 rfl) gf_X11_68 (mH_0) rfl ?_
          refine r_eq rfl (st2 := [.int (nI S.byt), .ref (m + 3)]) rfl ?_
          refine r_iload (pc := 86) (i := 6) (tX11_append.at 42 rfl) rfl ?_
          first | refine r_iaddN (pc := 88) (tX11_append.at 43 rfl) ?_ | refine r_iaddZ (pc := 88) (tX11_append.at 43 rfl) ?_ | refine r_iadd (pc := 88) (tX11_append.at 43 rfl) ?_
          refine r_iload (pc := 89) (i := 7) (tX11_append.at 44 rfl) rfl ?_
          refine r_bipush (pc := 91) (w := nI 24) (tX11_append.at 45 rfl) (by decide) ?_
          refine r_bipush (pc := 93) (w := nI 8) (tX11_append.at 46 rfl) (by decide) ?_
          refine r_iload (pc := 95) (i := 6) (tX11_append.at 47 rfl) rfl ?_
          refine r_iconst (pc := 97) (w := nI 4) (tX11_append.at 48 rfl) (by decide) ?_
          refine r_irem (pc := 98) (tX11_append.at 49 rfl) (by decide) ?_
          rw [irem_nI (by omega) (by omega) (by omega)]
          first | refine r_imulN (pc := 99) (tX11_append.at 50 rfl) ?_ | refine r_imulZ (pc := 99) (tX11_append.at 50 rfl) ?_ | refine r_imul (pc := 99) (tX11_append.at 50 rfl) ?_
          first | refine r_isubN (pc := 100) (tX11_append.at 51 rfl) (by omega) ?_ | refine r_isubZ (pc := 100) (tX11_append.at 51 rfl) ?_ | refine r_isub (pc := 100) (tX11_append.at 51 rfl) ?_
          refine r_ishr (pc := 101) (tX11_append.at 52 rfl) ?_
          refine r_sipush (pc := 102) (w := nI 255) (tX11_append.at 53 rfl) (by decide) ?_
          refine r_iand (pc := 105) (tX11_append.at 54 rfl) ?_
          rw [uB_and]
          refine r_iast (pc := 106) (tX11_append.at 55 rfl) (mH_txt) (S.byt + k) (rfl) (by omega) (Nat.le_of_ble_eq_true rfl) ?_
          rw [upd_iF, mH_stxt]
          refine r_eq (h2 := mH v h m ((S.s_thr 0).s_txt (apX S.txt S.byt (wk5 w0 w1 w2 w3 w4) (k + 1)))) (by rw [apX, ← hw]; rfl) rfl ?_
          first | refine r_iincN (pc := 107) (tX11_append.at 56 rfl) rfl (by decide) ?_ | refine r_iinc (pc := 107) (tX11_append.at 56 rfl) rfl rfl (by decide) ?_
          refine r_goto (pc := 110) 23 (tX11_append.at 57 rfl) (by decide) ?_
          exact ih (k + 1) _ (by omega)
        refine r_iload (pc := 23) (i := 6) (tX11_append.at 13 rfl) rfl ?_
        refine r_bipush (pc := 25) (w := nI 20) (tX11_append.at 14 rfl) (by decide) ?_
        refine r_icmp_geN (pc := 27) 113 (tX11_append.at 15 rfl) (by decide) (by omega) (by omega) (fun c => by omega) (fun _ => ?_)
        refine r_iload (pc := 30) (i := 6) (tX11_append.at 16 rfl) rfl ?_
        refine r_iconst (pc := 32) (w := nI 4) (tX11_append.at 17 rfl) (by decide) ?_
        refine r_icmp_geN (pc := 33) 40 (tX11_append.at 18 rfl) (by decide) (by omega) (by omega) (fun q1 => ?_) (fun q1 => ?_)
        · refine r_iload (pc := 40) (i := 6) (tX11_append.at 21 rfl) rfl ?_
          refine r_bipush (pc := 42) (w := nI 8) (tX11_append.at 22 rfl) (by decide) ?_
          refine r_icmp_geN (pc := 44) 51 (tX11_append.at 23 rfl) (by decide) (by omega) (by omega) (fun q2 => ?_) (fun q2 => ?_)
          · refine r_iload (pc := 51) (i := 6) (tX11_append.at 26 rfl) rfl ?_
            refine r_bipush (pc := 53) (w := nI 12) (tX11_append.at 27 rfl) (by decide) ?_
            refine r_icmp_geN (pc := 55) 62 (tX11_append.at 28 rfl) (by decide) (by omega) (by omega) (fun q3 => ?_) (fun q3 => ?_)
            · refine r_iload (pc := 62) (i := 6) (tX11_append.at 31 rfl) rfl ?_
              refine r_bipush (pc := 64) (w := nI 16) (tX11_append.at 32 rfl) (by decide) ?_
              refine r_icmp_geN (pc := 66) 74 (tX11_append.at 33 rfl) (by decide) (by omega) (by omega) (fun q4 => ?_) (fun q4 => ?_)
              · refine r_iload (pc := 74) (i := 5) (tX11_append.at 36 rfl) rfl ?_
                exact tail _ (by rw [wk5, if_neg (by omega), if_neg (by omega), if_neg (by omega), if_neg (by omega)])
              · refine r_iload (pc := 69) (i := 4) (tX11_append.at 34 rfl) rfl ?_
                refine r_goto (pc := 71) 76 (tX11_append.at 35 rfl) (by decide) ?_
                exact tail _ (by rw [wk5, if_neg (by omega), if_neg (by omega), if_neg (by omega), if_pos q4])
            · refine r_iload_n (pc := 58) (i := 3) (tX11_append.at 29 rfl) rfl rfl ?_
              refine r_goto (pc := 59) 76 (tX11_append.at 30 rfl) (by decide) ?_
              exact tail _ (by rw [wk5, if_neg (by omega), if_neg (by omega), if_pos q3])
          · refine r_iload_n (pc := 47) (i := 2) (tX11_append.at 24 rfl) rfl rfl ?_
            refine r_goto (pc := 48) 76 (tX11_append.at 25 rfl) (by decide) ?_
            exact tail _ (by rw [wk5, if_neg (by omega), if_pos q2])
        · refine r_iload_n (pc := 36) (i := 1) (tX11_append.at 19 rfl) rfl rfl ?_
          refine r_goto (pc := 37) 76 (tX11_append.at 20 rfl) (by decide) ?_
          exact tail _ (by rw [wk5, if_pos q1])
    exact key 20 0 _ (by omega)
  · refine r_iconst (pc := 18) (w := zI (-1)) (tX11_append.at 9 rfl) (by decide) ?_
    refine r_iret (pc := 19) (tX11_append.at 10 rfl) rfl (Nat.le_of_ble_eq_true rfl) (Nat.le_of_ble_eq_true rfl) ?_
    subst hPo
    refine ⟨by rw [if_neg (by omega)], rfl, ?_⟩
    rw [if_neg (by omega)]
end

