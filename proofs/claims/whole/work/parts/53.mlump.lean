/-! ===== the reference: blocks' answers ===== -/
section
variable {v : Ev} {h : Hp} {top m : Nat} {S : MS} {G : GT} {cn : Nat} {cc : Nat → Int}
theorem pt_b2 {G : GT} (hn : G.n ≤ 6) (hb : G.b ≤ 6) : -1 ≤ ptN G.W G.B G.n G.b ∧ ptN G.W G.B G.n G.b ≤ 2147483647 := ⟨(pt_b hn hb).2, (pt_b hn hb).1.2⟩
theorem c_mBlockCount (hr : RW S G cn cc) (hb : bkM G.B G.n = G.b) : Cal v mX11_blockCount 4 0 0 [.ref m] (mH v h m S) top (pA v h m S top (.int (nI G.b)) 0) noX := by
  have hB : ∀ k, k < G.n → G.B k ≤ 6 := fun k hk => hr.2.1.1.2.2.2.1 k (by have := hr.2.1.1.1; omega)
  refine Cal.ofJ (by decide +kernel) rfl (Nat.le_of_ble_eq_true rfl) fun hz0 => ?_
  refine r_ls [some (.ref m)] rfl ?_
  refine r_aload_n (pc := 0) (i := 0) (tX11_blockCount.at 0 rfl) rfl rfl ?_
  refine r_iconst (pc := 1) (w := nI 0) (tX11_blockCount.at 1 rfl) (by decide) ?_
  refine r_put (pc := 2) (tX11_blockCount.at 2 rfl) pf_X11_55 (mH_0) (Nat.le_of_ble_eq_true rfl) (rfl) (rfl) ?_
  refine r_eq (h2 := mH v h m (S.s_thr 0)) (mH_p0 (S' := S.s_thr 0) rfl) rfl ?_
  refine r_aload_n (pc := 5) (i := 0) (tX11_blockCount.at 3 rfl) rfl rfl ?_
  refine r_callV (M' := mX11_blocksNow) (pc := 6) (tX11_blockCount.at 4 rfl) ml_X11_307 rfl mw_X11_blocksNow ⟨by decide, by decide⟩ (mH_0) rfl rfl (c_mBlk (S := S.s_thr 0) ((per0 S 0).rwG hr.1) hr.2.1.1.1 hB) rfl rfl (Nat.le_of_ble_eq_true rfl) (Nat.le_of_ble_eq_true rfl) (Nat.le_of_ble_eq_true rfl) ?_
  rintro _ _ _ ⟨rfl, rfl, rfl⟩
  refine r_iret (pc := 9) (tX11_blockCount.at 5 rfl) rfl (Nat.le_of_ble_eq_true rfl) (Nat.le_of_ble_eq_true rfl) ?_
  exact ⟨by rw [hb], rfl, _, rfl, per0 S 0, rfl⟩
theorem c_mPartedQ (hr : RW S G cn cc) (hb : bkM G.B G.n = G.b) : Cal v mX11_parted 6 0 0 [.ref m] (mH v h m S) top (pA v h m S top (.int (zI (ptN G.W G.B G.n G.b))) 0) noX := by
  refine Cal.ofJ (by decide +kernel) rfl (Nat.le_of_ble_eq_true rfl) fun hz0 => ?_
  refine r_ls [some (.ref m)] rfl ?_
  refine r_aload_n (pc := 0) (i := 0) (tX11_parted.at 0 rfl) rfl rfl ?_
  refine r_iconst (pc := 1) (w := nI 0) (tX11_parted.at 1 rfl) (by decide) ?_
  refine r_put (pc := 2) (tX11_parted.at 2 rfl) pf_X11_55 (mH_0) (Nat.le_of_ble_eq_true rfl) (rfl) (rfl) ?_
  refine r_eq (h2 := mH v h m (S.s_thr 0)) (mH_p0 (S' := S.s_thr 0) rfl) rfl ?_
  generalize hPo : pA v h m S top (.int (zI (ptN G.W G.B G.n G.b))) 0 = Po
  refine r_aload_n (pc := 5) (i := 0) (tX11_parted.at 3 rfl) rfl rfl ?_
  refine r_callV (M' := mX11_firstParted) (pc := 6) (tX11_parted.at 4 rfl) ml_X11_314 rfl mw_X11_firstParted ⟨by decide, by decide⟩ (mH_0) rfl rfl ((c_mParted (S := S.s_thr 0) ((per0 S 0).RW hr) hb)) rfl rfl (Nat.le_of_ble_eq_true rfl) (Nat.le_of_ble_eq_true rfl) (Nat.le_of_ble_eq_true rfl) ?_
  rintro _ _ _ ⟨rfl, rfl, S1, rfl, p1, t1, l1⟩
  refine r_iret (pc := 9) (tX11_parted.at 5 rfl) rfl (Nat.le_of_ble_eq_true rfl) (Nat.le_of_ble_eq_true rfl) ?_
  subst hPo
  exact ⟨rfl, rfl, S1, rfl, per.trans (per0 S 0) p1, t1⟩
theorem c_mLumpable (hr : RW S G cn cc) (hb : bkM G.B G.n = G.b) (hb6 : G.b ≤ 6) : Cal v mX11_isLumpable 6 0 0 [.ref m] (mH v h m S) top (pA v h m S top (.int (nI (Bool.toNat (!ptB G)))) 0) noX := by
  obtain ⟨b1, b2⟩ := pt_b2 (G := G) hr.2.1.1.1 hb6
  have b3 := ptN_1 (G := G)
  refine Cal.ofJ (by decide +kernel) rfl (Nat.le_of_ble_eq_true rfl) fun hz0 => ?_
  refine r_ls [some (.ref m)] rfl ?_
  refine r_aload_n (pc := 0) (i := 0) (tX11_isLumpable.at 0 rfl) rfl rfl ?_
  refine r_iconst (pc := 1) (w := nI 0) (tX11_isLumpable.at 1 rfl) (by decide) ?_
  refine r_put (pc := 2) (tX11_isLumpable.at 2 rfl) pf_X11_55 (mH_0) (Nat.le_of_ble_eq_true rfl) (rfl) (rfl) ?_
  refine r_eq (h2 := mH v h m (S.s_thr 0)) (mH_p0 (S' := S.s_thr 0) rfl) rfl ?_
  generalize hPo : pA v h m S top (.int (nI (Bool.toNat (!ptB G)))) 0 = Po
  refine r_aload_n (pc := 5) (i := 0) (tX11_isLumpable.at 3 rfl) rfl rfl ?_
  refine r_callV (M' := mX11_firstParted) (pc := 6) (tX11_isLumpable.at 4 rfl) ml_X11_314 rfl mw_X11_firstParted ⟨by decide, by decide⟩ (mH_0) rfl rfl ((c_mParted (S := S.s_thr 0) ((per0 S 0).RW hr) hb)) rfl rfl (Nat.le_of_ble_eq_true rfl) (Nat.le_of_ble_eq_true rfl) (Nat.le_of_ble_eq_true rfl) ?_
  rintro _ _ _ ⟨rfl, rfl, S1, rfl, p1, t1, l1⟩
  refine r_iconst (pc := 9) (w := zI (-1)) (tX11_isLumpable.at 5 rfl) (by decide) ?_
  generalize ptN G.W G.B G.n G.b = z at *
  have fin : ∀ b : Nat, b = Bool.toNat (!ptB G) → Po (some (.int (nI b))) (mH v h m S1) top := by
    intro b hb
    subst hPo
    exact ⟨by rw [hb], rfl, S1, rfl, per.trans (per0 S 0) p1, t1⟩
  by_cases c : z = -1
  · refine r_icmp_neZ (pc := 10) 17 (tX11_isLumpable.at 6 rfl) (by decide) ⟨by omega, by omega⟩ ⟨by omega, by omega⟩ (fun c => by omega) (fun _ => ?_)
    refine r_iconst (pc := 13) (w := nI 1) (tX11_isLumpable.at 7 rfl) (by decide) ?_
    refine r_goto (pc := 14) 18 (tX11_isLumpable.at 8 rfl) (by decide) ?_
    refine r_zret (pc := 18) (tX11_isLumpable.at 10 rfl) rfl (rfl) (Nat.le_of_ble_eq_true rfl) (Nat.le_of_ble_eq_true rfl) ?_
    exact fin 1 (by rw [b3.mp c]; rfl)
  · refine r_icmp_neZ (pc := 10) 17 (tX11_isLumpable.at 6 rfl) (by decide) ⟨by omega, by omega⟩ ⟨by omega, by omega⟩ (fun _ => ?_) (fun c => by omega)
    refine r_iconst (pc := 17) (w := nI 0) (tX11_isLumpable.at 9 rfl) (by decide) ?_
    refine r_zret (pc := 18) (tX11_isLumpable.at 10 rfl) rfl (rfl) (Nat.le_of_ble_eq_true rfl) (Nat.le_of_ble_eq_true rfl) ?_
    refine fin 0 ?_
    cases q : ptB G with
    | true => rfl
    | false => exact absurd (b3.mpr q) c
theorem c_mAreB {z y : Int} (hr : RW S G cn cc) (hb : bkM G.B G.n = G.b) (hb6 : G.b ≤ 6) (hz : inI z) (hy : inI y) : Cal v mX11_areBlocks 6 0 0 [.ref m, .int (zI z), .int (zI y)] (mH v h m S) top (pAB v h m S top G cn cc (abT G z y)) noX := by
  obtain ⟨b1, b2⟩ := pt_b2 (G := G) hr.2.1.1.1 hb6
  have b3 := ptN_1 (G := G)
  obtain ⟨z1, z2⟩ := hz
  obtain ⟨y1, y2⟩ := hy
  have hB : ∀ k, k < G.n → G.B k ≤ 6 := fun k hk => hr.2.1.1.2.2.2.1 k (by have := hr.2.1.1.1; omega)
  have hr0 := (per0 S 0).RW hr
  have h6 := hr.2.1.1.1
  refine Cal.ofJ (by decide +kernel) rfl (Nat.le_of_ble_eq_true rfl) fun hz0 => ?_
  refine r_ls [some (.ref m), some (.int (zI z)), some (.int (zI y))] rfl ?_
  generalize hPo : pAB v h m S top G cn cc (abT G z y) = Po
  refine r_aload_n (pc := 0) (i := 0) (tX11_areBlocks.at 0 rfl) rfl rfl ?_
  refine r_iconst (pc := 1) (w := nI 0) (tX11_areBlocks.at 1 rfl) (by decide) ?_
  refine r_put (pc := 2) (tX11_areBlocks.at 2 rfl) pf_X11_55 (mH_0) (Nat.le_of_ble_eq_true rfl) (rfl) (rfl) ?_
  refine r_eq (h2 := mH v h m (S.s_thr 0)) (mH_p0 (S' := S.s_thr 0) rfl) rfl ?_
  -- behind the range
  have fin : ∀ b, b = decide ((0 ≤ z ∧ z < G.b) ∧ (0 ≤ y ∧ y < G.b)) → J v mX11_areBlocks (rmOf 6 0 0) (KM v Po noX 0 0) top 0 0 (mH v h m (S.s_thr 0)) top 43 [some (.ref m), some (.int (zI z)), some (.int (zI y))] [.int (nI (Bool.toNat b)), .ref m] := by
    intro b hbd
    refine r_iconst (pc := 43) (w := nI 1) (tX11_areBlocks.at 27 rfl) (by decide) ?_
    refine r_callV (M' := mX11_right) (pc := 44) (tX11_areBlocks.at 28 rfl) ml_X11_190 rfl mw_X11_right ⟨by decide, by decide⟩ (mH_0) rfl rfl (c_mRight (S := S.s_thr 0) (show (0 : Nat) < 65536 by omega) (by omega)) rfl rfl (Nat.le_of_ble_eq_true rfl) (Nat.le_of_ble_eq_true rfl) (Nat.le_of_ble_eq_true rfl) ?_
    rintro _ _ _ ⟨rfl, rfl, rfl⟩
    obtain ⟨q1, -, -, -, q5⟩ := rgt_pel (S := S.s_thr 0) (b := b) (c := 1)
    generalize hS1 : (S.s_thr 0).rgt b 1 = S1 at *
    cases b with
    | false =>
      have c := of_decide_eq_false hbd.symm
      have t1 : S1.thr = 1 := by rw [q5, if_pos ⟨rfl, rfl⟩]
      rw [show okT0 S1 = false from decide_eq_false (by omega), Bool.toNat_false]
      refine r_if_eqN (pc := 47) 75 (tX11_areBlocks.at 29 rfl) (by decide) (by omega) (fun _ => ?_) (fun c => by omega)
      refine r_iconst (pc := 75) (w := nI 0) (tX11_areBlocks.at 43 rfl) (by decide) ?_
      refine r_zret (pc := 76) (tX11_areBlocks.at 44 rfl) rfl (rfl) (Nat.le_of_ble_eq_true rfl) (Nat.le_of_ble_eq_true rfl) ?_
      subst hPo
      have et : abT G z y = 1 := by rw [abT, if_neg c]
      rw [et]
      exact ⟨rfl, rfl, S1, rfl, per.trans (per0 S 0) q1, t1, fun q => by omega⟩
    | true =>
      have c := of_decide_eq_true hbd.symm
      have t1 : S1.thr = 0 := by
        rw [q5, if_neg (by simp)]
        rfl
      rw [show okT0 S1 = true from decide_eq_true t1, Bool.toNat_true]
      refine r_if_eqN (pc := 47) 75 (tX11_areBlocks.at 29 rfl) (by decide) (by omega) (fun c => by omega) (fun _ => ?_)
      refine r_aload_n (pc := 50) (i := 0) (tX11_areBlocks.at 30 rfl) rfl rfl ?_
      refine r_aload_n (pc := 51) (i := 0) (tX11_areBlocks.at 31 rfl) rfl rfl ?_
      refine r_callV (M' := mX11_firstParted) (pc := 52) (tX11_areBlocks.at 32 rfl) ml_X11_314 rfl mw_X11_firstParted ⟨by decide, by decide⟩ (mH_0) rfl rfl ((c_mParted (S := S1) (q1.RW hr0) hb)) rfl rfl (Nat.le_of_ble_eq_true rfl) (Nat.le_of_ble_eq_true rfl) (Nat.le_of_ble_eq_true rfl) ?_
      rintro _ _ _ ⟨rfl, rfl, S2, rfl, p2, t2, l2⟩
      refine r_iconst (pc := 55) (w := zI (-1)) (tX11_areBlocks.at 33 rfl) (by decide) ?_
      have fin2 : ∀ b, b = (!ptB G) → J v mX11_areBlocks (rmOf 6 0 0) (KM v Po noX 0 0) top 0 0 (mH v h m S2) top 64 [some (.ref m), some (.int (zI z)), some (.int (zI y))] [.int (nI (Bool.toNat b)), .ref m] := by
        intro b hbp
        refine r_iconst (pc := 64) (w := nI 2) (tX11_areBlocks.at 38 rfl) (by decide) ?_
        refine r_callV (M' := mX11_right) (pc := 65) (tX11_areBlocks.at 39 rfl) ml_X11_190 rfl mw_X11_right ⟨by decide, by decide⟩ (mH_0) rfl rfl (c_mRight (S := S2) (by omega) (by omega)) rfl rfl (Nat.le_of_ble_eq_true rfl) (Nat.le_of_ble_eq_true rfl) (Nat.le_of_ble_eq_true rfl) ?_
        rintro _ _ _ ⟨rfl, rfl, rfl⟩
        obtain ⟨r1, -, -, -, r5⟩ := rgt_pel (S := S2) (b := b) (c := 2)
        have l3 := l2.rgt (b := b) (c := 2)
        generalize hS3 : S2.rgt b 2 = S3 at *
        have pp := per.trans (per.trans (per0 S 0) q1) (per.trans p2 r1)
        cases hq : ptB G with
        | false =>
          rw [hq] at hbp
          have et : abT G z y = 0 := by rw [abT, if_pos c, if_pos hq]
          have t3 : S3.thr = 0 := by rw [r5, t2, t1, hbp, if_neg (by simp)]
          rw [show okT0 S3 = true from decide_eq_true t3, Bool.toNat_true]
          refine r_if_eqN (pc := 68) 75 (tX11_areBlocks.at 40 rfl) (by decide) (by omega) (fun c => by omega) (fun _ => ?_)
          refine r_iconst (pc := 71) (w := nI 1) (tX11_areBlocks.at 41 rfl) (by decide) ?_
          refine r_goto (pc := 72) 76 (tX11_areBlocks.at 42 rfl) (by decide) ?_
          refine r_zret (pc := 76) (tX11_areBlocks.at 44 rfl) rfl (rfl) (Nat.le_of_ble_eq_true rfl) (Nat.le_of_ble_eq_true rfl) ?_
          subst hPo
          rw [et]
          exact ⟨rfl, rfl, S3, rfl, pp, t3, fun _ => l3⟩
        | true =>
          rw [hq] at hbp
          have et : abT G z y = 2 := by rw [abT, if_pos c, if_neg (by rw [hq]; simp)]
          have t3 : S3.thr = 2 := by rw [r5, t2, t1, hbp, if_pos ⟨rfl, rfl⟩]
          rw [show okT0 S3 = false from decide_eq_false (by omega), Bool.toNat_false]
          refine r_if_eqN (pc := 68) 75 (tX11_areBlocks.at 40 rfl) (by decide) (by omega) (fun _ => ?_) (fun c => by omega)
          refine r_iconst (pc := 75) (w := nI 0) (tX11_areBlocks.at 43 rfl) (by decide) ?_
          refine r_zret (pc := 76) (tX11_areBlocks.at 44 rfl) rfl (rfl) (Nat.le_of_ble_eq_true rfl) (Nat.le_of_ble_eq_true rfl) ?_
          subst hPo
          rw [et]
          exact ⟨rfl, rfl, S3, rfl, pp, t3, fun q => by omega⟩
      generalize ptN G.W G.B G.n G.b = zz at *
      by_cases cq : zz = -1
      · refine r_icmp_neZ (pc := 56) 63 (tX11_areBlocks.at 34 rfl) (by decide) ⟨by omega, by omega⟩ ⟨by omega, by omega⟩ (fun c => by omega) (fun _ => ?_)
        refine r_iconst (pc := 59) (w := nI 1) (tX11_areBlocks.at 35 rfl) (by decide) ?_
        refine r_goto (pc := 60) 64 (tX11_areBlocks.at 36 rfl) (by decide) ?_
        exact fin2 true (by rw [b3.mp cq]; rfl)
      · refine r_icmp_neZ (pc := 56) 63 (tX11_areBlocks.at 34 rfl) (by decide) ⟨by omega, by omega⟩ ⟨by omega, by omega⟩ (fun _ => ?_) (fun c => by omega)
        refine r_iconst (pc := 63) (w := nI 0) (tX11_areBlocks.at 37 rfl) (by decide) ?_
        refine fin2 false ?_
        cases q : ptB G with
        | true => rfl
        | false => exact absurd (b3.mpr q) cq
  have g0 := hr0.1
  refine r_aload_n (pc := 5) (i := 0) (tX11_areBlocks.at 3 rfl) rfl rfl ?_
  refine r_iload_n (pc := 6) (i := 1) (tX11_areBlocks.at 4 rfl) rfl rfl ?_
  refine r_i2lZ (pc := 7) (tX11_areBlocks.at 5 rfl) ⟨by omega, by omega⟩ ?_
  refine r_lconst (pc := 8) (w := lI 0) (tX11_areBlocks.at 6 rfl) (by decide) ?_
  refine r_aload_n (pc := 9) (i := 0) (tX11_areBlocks.at 7 rfl) rfl rfl ?_
  refine r_callV (M' := mX11_blocksNow) (pc := 10) (tX11_areBlocks.at 8 rfl) ml_X11_307 rfl mw_X11_blocksNow ⟨by decide, by decide⟩ (mH_0) rfl rfl (c_mBlk (S := S.s_thr 0) g0 h6 hB) rfl rfl (Nat.le_of_ble_eq_true rfl) (Nat.le_of_ble_eq_true rfl) (Nat.le_of_ble_eq_true rfl) ?_
  rintro _ _ _ ⟨rfl, rfl, rfl⟩
  rw [hb, ← zI_nat G.b]
  refine r_eq rfl (st2 := [.int (zI (G.b : Nat)), .long (lI 0), .long (lI z), .ref m]) rfl ?_
  refine r_iconst (pc := 13) (w := zI 1) (tX11_areBlocks.at 9 rfl) (by decide) ?_
  refine r_isubZ (pc := 14) (tX11_areBlocks.at 10 rfl) ?_
  refine r_i2lZ (pc := 15) (tX11_areBlocks.at 11 rfl) ⟨by omega, by omega⟩ ?_
  refine r_callS (M' := mX11_isIn) (pc := 16) (tX11_areBlocks.at 12 rfl) ml_X11_114 rfl mw_X11_isIn ⟨by decide, by decide⟩ (c_mIsIn ⟨by omega, by omega⟩ ⟨by omega, by omega⟩ ⟨by omega, by omega⟩) rfl rfl (Nat.le_of_ble_eq_true rfl) (Nat.le_of_ble_eq_true rfl) (Nat.le_of_ble_eq_true rfl) ?_
  rintro _ _ _ ⟨rfl, rfl, rfl⟩
  by_cases c1 : 0 ≤ z ∧ z < G.b
  · rw [show inB z 0 ((G.b : Nat) - 1) = true from inB_t.mpr c1, Bool.toNat_true]
    refine r_if_eqN (pc := 19) 42 (tX11_areBlocks.at 13 rfl) (by decide) (by omega) (fun c => by omega) (fun _ => ?_)
    refine r_iload_n (pc := 22) (i := 2) (tX11_areBlocks.at 14 rfl) rfl rfl ?_
    refine r_i2lZ (pc := 23) (tX11_areBlocks.at 15 rfl) ⟨by omega, by omega⟩ ?_
    refine r_lconst (pc := 24) (w := lI 0) (tX11_areBlocks.at 16 rfl) (by decide) ?_
    refine r_aload_n (pc := 25) (i := 0) (tX11_areBlocks.at 17 rfl) rfl rfl ?_
    refine r_callV (M' := mX11_blocksNow) (pc := 26) (tX11_areBlocks.at 18 rfl) ml_X11_307 rfl mw_X11_blocksNow ⟨by decide, by decide⟩ (mH_0) rfl rfl (c_mBlk (S := S.s_thr 0) g0 h6 hB) rfl rfl (Nat.le_of_ble_eq_true rfl) (Nat.le_of_ble_eq_true rfl) (Nat.le_of_ble_eq_true rfl) ?_
    rintro _ _ _ ⟨rfl, rfl, rfl⟩
    rw [hb, ← zI_nat G.b]
    refine r_eq rfl (st2 := [.int (zI (G.b : Nat)), .long (lI 0), .long (lI y), .ref m]) rfl ?_
    refine r_iconst (pc := 29) (w := zI 1) (tX11_areBlocks.at 19 rfl) (by decide) ?_
    refine r_isubZ (pc := 30) (tX11_areBlocks.at 20 rfl) ?_
    refine r_i2lZ (pc := 31) (tX11_areBlocks.at 21 rfl) ⟨by omega, by omega⟩ ?_
    refine r_callS (M' := mX11_isIn) (pc := 32) (tX11_areBlocks.at 22 rfl) ml_X11_114 rfl mw_X11_isIn ⟨by decide, by decide⟩ (c_mIsIn ⟨by omega, by omega⟩ ⟨by omega, by omega⟩ ⟨by omega, by omega⟩) rfl rfl (Nat.le_of_ble_eq_true rfl) (Nat.le_of_ble_eq_true rfl) (Nat.le_of_ble_eq_true rfl) ?_
    rintro _ _ _ ⟨rfl, rfl, rfl⟩
    by_cases c2 : 0 ≤ y ∧ y < G.b
    · rw [show inB y 0 ((G.b : Nat) - 1) = true from inB_t.mpr c2, Bool.toNat_true]
      refine r_if_eqN (pc := 35) 42 (tX11_areBlocks.at 23 rfl) (by decide) (by omega) (fun c => by omega) (fun _ => ?_)
      refine r_iconst (pc := 38) (w := nI 1) (tX11_areBlocks.at 24 rfl) (by decide) ?_
      refine r_goto (pc := 39) 43 (tX11_areBlocks.at 25 rfl) (by decide) ?_
      exact fin true (decide_eq_true ⟨c1, c2⟩).symm
    · rw [show inB y 0 ((G.b : Nat) - 1) = false from inB_f.mpr (by omega), Bool.toNat_false]
      refine r_if_eqN (pc := 35) 42 (tX11_areBlocks.at 23 rfl) (by decide) (by omega) (fun _ => ?_) (fun c => by omega)
      refine r_iconst (pc := 42) (w := nI 0) (tX11_areBlocks.at 26 rfl) (by decide) ?_
      exact fin false (decide_eq_false (fun q => c2 q.2)).symm
  · rw [show inB z 0 ((G.b : Nat) - 1) = false from inB_f.mpr (by omega), Bool.toNat_false]
    refine r_if_eqN (pc := 19) 42 (tX11_areBlocks.at 13 rfl) (by decide) (by omega) (fun _ => ?_) (fun c => by omega)
    refine r_iconst (pc := 42) (w := nI 0) (tX11_areBlocks.at 26 rfl) (by decide) ?_
    exact fin false (decide_eq_false (fun q => c1 q.1)).symm
theorem ab_nat {G : GT} {z y : Int} (h : abT G z y = 0) : (∃ i j : Nat, z = i ∧ y = j ∧ i < G.b ∧ j < G.b) ∧ ptB G = false := by
  unfold abT at h
  split at h
  · next c =>
    split at h
    · next c2 => exact ⟨⟨z.toNat, y.toNat, by omega, by omega, by omega, by omega⟩, c2⟩
    · cases h
  · cases h
def fsM (G : GT) (b : Nat) : Nat := fstN (fun k => decide (G.B k = b)) G.n
theorem fsM_lt {G : GT} {b : Nat} (hex : ∃ k, k < G.n ∧ G.B k = b) : fsM G b < G.n ∧ G.B (fsM G b) = b := by
  obtain ⟨h1, h2, h3⟩ := fstN_spec (fun k => decide (G.B k = b)) G.n
  obtain ⟨k, hk, hkb⟩ := hex
  have : fsM G b < G.n := by
    rcases Nat.lt_or_ge (fsM G b) G.n with q | q
    · exact q
    · have := h2 k (Nat.lt_of_lt_of_le hk q)
      simp at this
      exact absurd hkb this
  exact ⟨this, of_decide_eq_true (h3 this)⟩
theorem c_mLumped {z y : Int} {p : Nat} (hr : RW S G cn cc) (hb : bkM G.B G.n = G.b) (hb6 : G.b ≤ 6) (hex : ∀ b, b < G.b → ∃ k, k < G.n ∧ G.B k = b) (hz : inI z) (hy : inI y) (hp' : p ≤ 1) : Cal v mX11_lumped 7 0 0 [.ref m, .int (zI z), .int (zI y), .int (nI p)] (mH v h m S) top (pA v h m S top (iT (abT G z y) (zI (fp p (frA (tbM G.W G.B G.n (fsM G z.toNat) y.toNat : Nat) (byM G.W G.n (fsM G z.toNat) : Nat)) (frB (tbM G.W G.B G.n (fsM G z.toNat) y.toNat : Nat) (byM G.W G.n (fsM G z.toNat) : Nat))))) (abT G z y)) noX := by
  have h6 := hr.2.1.1.1
  have hB : ∀ k, k < G.n → G.B k ≤ 6 := fun k hk => hr.2.1.1.2.2.2.1 k (by omega)
  refine Cal.ofJ (by decide +kernel) rfl (Nat.le_of_ble_eq_true rfl) fun hz0 => ?_
  refine r_ls [some (.ref m), some (.int (zI z)), some (.int (zI y)), some (.int (nI p)), none] rfl ?_
  generalize ht : abT G z y = t
  generalize hPo : pA v h m S top (iT t _) t = Po
  refine r_aload_n (pc := 0) (i := 0) (tX11_lumped.at 0 rfl) rfl rfl ?_
  refine r_iload_n (pc := 1) (i := 1) (tX11_lumped.at 1 rfl) rfl rfl ?_
  refine r_iload_n (pc := 2) (i := 2) (tX11_lumped.at 2 rfl) rfl rfl ?_
  refine r_callV (M' := mX11_areBlocks) (pc := 3) (tX11_lumped.at 3 rfl) ml_X11_317 rfl mw_X11_areBlocks ⟨by decide, by decide⟩ (mH_0) rfl rfl ((c_mAreB hr hb hb6 hz hy)) rfl rfl (Nat.le_of_ble_eq_true rfl) (Nat.le_of_ble_eq_true rfl) (Nat.le_of_ble_eq_true rfl) ?_
  rw [ht]
  rintro _ _ _ ⟨rfl, rfl, S1, rfl, p1, t1, l1⟩
  by_cases c : t = 0
  · rw [decide_eq_true c, Bool.toNat_true]
    refine r_if_neN (pc := 6) 11 (tX11_lumped.at 4 rfl) (by decide) (by omega) (fun _ => ?_) (fun c => by omega)
    have l1 := l1 c
    rw [c] at ht
    obtain ⟨⟨i, j, rfl, rfl, hi, hj⟩, -⟩ := ab_nat ht
    obtain ⟨f1, f2⟩ := fsM_lt (hex i hi)
    have g1 := p1.rwG hr.1
    obtain ⟨b1, b2, b3⟩ := tbM_le (B := G.B) (x := fsM G i) (b := j) h6 (by omega) hr.2.1.w9
    rw [zI_nat, zI_nat] at *
    refine r_aload_n (pc := 11) (i := 0) (tX11_lumped.at 7 rfl) rfl rfl ?_
    refine r_iload_n (pc := 12) (i := 1) (tX11_lumped.at 8 rfl) rfl rfl ?_
    refine r_callV (M' := mX11_firstOf) (pc := 13) (tX11_lumped.at 9 rfl) ml_X11_320 rfl mw_X11_firstOf ⟨by decide, by decide⟩ (mH_0) rfl rfl (c_mFirst g1 h6 hB (show i ≤ 6 by omega) (hex i hi)) rfl rfl (Nat.le_of_ble_eq_true rfl) (Nat.le_of_ble_eq_true rfl) (Nat.le_of_ble_eq_true rfl) ?_
    rintro _ _ _ ⟨rfl, rfl, rfl⟩
    refine r_istore (pc := 16) (i := 4) (tX11_lumped.at 10 rfl) (by decide) ?_
    rw [show fstN (fun k => decide (G.B k = i)) G.n = fsM G i from rfl]
    refine r_aload_n (pc := 18) (i := 0) (tX11_lumped.at 11 rfl) rfl rfl ?_
    refine r_aload_n (pc := 19) (i := 0) (tX11_lumped.at 12 rfl) rfl rfl ?_
    refine r_iload (pc := 20) (i := 4) (tX11_lumped.at 13 rfl) rfl ?_
    refine r_iload_n (pc := 22) (i := 2) (tX11_lumped.at 14 rfl) rfl rfl ?_
    refine r_callV (M' := mX11_toBlock) (pc := 23) (tX11_lumped.at 15 rfl) ml_X11_301 rfl mw_X11_toBlock ⟨by decide, by decide⟩ (mH_0) rfl rfl (c_mTo g1 l1 h6 f1 (show j ≤ 100 by omega) hB hr.2.1.w9) rfl rfl (Nat.le_of_ble_eq_true rfl) (Nat.le_of_ble_eq_true rfl) (Nat.le_of_ble_eq_true rfl) ?_
    rintro _ _ _ ⟨rfl, rfl, rfl⟩
    first | refine r_i2lN (pc := 26) (tX11_lumped.at 16 rfl) (by omega) ?_ | refine r_i2lZ (pc := 26) (tX11_lumped.at 16 rfl) ⟨by omega, by omega⟩ ?_ | refine r_i2l (pc := 26) (tX11_lumped.at 16 rfl) ?_
    refine r_aload_n (pc := 27) (i := 0) (tX11_lumped.at 17 rfl) rfl rfl ?_
    refine r_iload (pc := 28) (i := 4) (tX11_lumped.at 18 rfl) rfl ?_
    refine r_callV (M' := mX11_by) (pc := 30) (tX11_lumped.at 19 rfl) ml_X11_304 rfl mw_X11_by ⟨by decide, by decide⟩ (mH_0) rfl rfl (c_mBy l1 h6 (by omega) hr.2.1.w9) rfl rfl (Nat.le_of_ble_eq_true rfl) (Nat.le_of_ble_eq_true rfl) (Nat.le_of_ble_eq_true rfl) ?_
    rintro _ _ _ ⟨rfl, rfl, rfl⟩
    first | refine r_i2lN (pc := 33) (tX11_lumped.at 20 rfl) (by omega) ?_ | refine r_i2lZ (pc := 33) (tX11_lumped.at 20 rfl) ⟨by omega, by omega⟩ ?_ | refine r_i2l (pc := 33) (tX11_lumped.at 20 rfl) ?_
    refine r_callV (M' := mX11_fraction) (pc := 34) (tX11_lumped.at 21 rfl) ml_X11_245 rfl mw_X11_fraction ⟨by decide, by decide⟩ (mH_0) rfl rfl (c_mFrac ⟨by omega, by omega⟩ ⟨by omega, by omega⟩) rfl rfl (Nat.le_of_ble_eq_true rfl) (Nat.le_of_ble_eq_true rfl) (Nat.le_of_ble_eq_true rfl) ?_
    rintro _ _ _ ⟨rfl, rfl, rfl⟩
    refine r_aload_n (pc := 37) (i := 0) (tX11_lumped.at 22 rfl) rfl rfl ?_
    refine r_iload_n (pc := 38) (i := 3) (tX11_lumped.at 23 rfl) rfl rfl ?_
    refine r_callV (M' := mX11_told) (pc := 39) (tX11_lumped.at 24 rfl) ml_X11_283 rfl mw_X11_told ⟨by decide, by decide⟩ (mH_0) rfl rfl (c_mTold hp') rfl rfl (Nat.le_of_ble_eq_true rfl) (Nat.le_of_ble_eq_true rfl) (Nat.le_of_ble_eq_true rfl) ?_
    rintro _ _ _ ⟨rfl, rfl, rfl⟩
    first | refine r_l2iZ (pc := 42) (tX11_lumped.at 25 rfl) ?_ | refine r_l2i (pc := 42) (tX11_lumped.at 25 rfl) ?_
    refine r_iret (pc := 43) (tX11_lumped.at 26 rfl) rfl (Nat.le_of_ble_eq_true rfl) (Nat.le_of_ble_eq_true rfl) ?_
    subst hPo
    exact ⟨by rw [iT, if_pos c, Int.toNat_natCast, Int.toNat_natCast]; rfl, rfl, _, rfl, per.trans p1 ⟨⟨rfl, rfl, rfl, rfl⟩, rfl, rfl⟩, t1⟩
  · rw [decide_eq_false c, Bool.toNat_false]
    refine r_if_neN (pc := 6) 11 (tX11_lumped.at 4 rfl) (by decide) (by omega) (fun c => by omega) (fun _ => ?_)
    refine r_iconst (pc := 9) (w := nI 0) (tX11_lumped.at 5 rfl) (by decide) ?_
    refine r_iret (pc := 10) (tX11_lumped.at 6 rfl) rfl (Nat.le_of_ble_eq_true rfl) (Nat.le_of_ble_eq_true rfl) ?_
    subst hPo
    exact ⟨by rw [iT, if_neg c]; rfl, rfl, S1, rfl, p1, t1⟩
end

