/-! ===== the reference: steps, ways, blocks ===== -/
def stN (W : Nat → Nat) (n x y : Nat) : Int := if degN W x n = 0 then (if x = y then 1 else 0) else (W (x * 6 + y) : Nat)
def stD (W : Nat → Nat) (n x : Nat) : Int := if degN W x n = 0 then 1 else (degN W x n : Nat)
/-- may one go -/
def goT (G : GT) (z y : Int) : Nat := if vtT G z = 0 then (if vtT G y = 0 then (if (rcm G.W G.n z.toNat).testBit y.toNat = true then 0 else 2) else 1) else 1
theorem vt_nat {G : GT} {z : Int} (h : vtT G z = 0) : ∃ i : Nat, z = i ∧ i < G.n := by
  unfold vtT at h
  split at h
  · next c => exact ⟨z.toNat, by omega, by omega⟩
  · cases h
def bkM (B : Nat → Nat) : Nat → Nat
  | 0 => 0
  | k + 1 => max (bkM B k) (B k + 1)
def itM (B F : Nat → Nat) (x : Nat) : Nat → Int
  | 0 => -1
  | u + 1 => if B u = B x then (F u : Nat) else itM B F x u
def nuM (B F : Nat → Nat) : Nat → (Nat → Nat) × Nat
  | 0 => (F, 0)
  | x + 1 => if itM B (nuM B F x).1 x x = -1 then (upN (nuM B F x).1 x (nuM B F x).2, (nuM B F x).2 + 1) else (upN (nuM B F x).1 x (itM B (nuM B F x).1 x x).toNat, (nuM B F x).2)
theorem itM_b {B F : Nat → Nat} {x : Nat} : ∀ u, itM B F x u = -1 ∨ ∃ k, k < u ∧ itM B F x u = (F k : Nat)
  | 0 => Or.inl rfl
  | u + 1 => by
    rw [itM]
    split
    · exact Or.inr ⟨u, by omega, rfl⟩
    · rcases itM_b (B := B) (F := F) (x := x) u with h | ⟨k, hk, h⟩
      · exact Or.inl h
      · exact Or.inr ⟨k, by omega, h⟩
theorem nuM_b {B F : Nat → Nat} : ∀ x, (nuM B F x).2 ≤ x ∧ ∀ k, k < x → (nuM B F x).1 k ≤ x
  | 0 => ⟨Nat.le_refl _, fun k hk => by omega⟩
  | x + 1 => by
    obtain ⟨h1, h2⟩ := nuM_b (B := B) (F := F) x
    rw [nuM]
    split
    · refine ⟨by show _ + 1 ≤ _; omega, fun k hk => ?_⟩
      show upN _ x _ k ≤ _
      by_cases e : k = x
      · rw [e, upN_eq]; omega
      · rw [upN_ne _ _ e]
        have := h2 k (by omega)
        omega
    · next c =>
      refine ⟨by show _ ≤ _; omega, fun k hk => ?_⟩
      show upN _ x _ k ≤ _
      by_cases e : k = x
      · rw [e, upN_eq]
        rcases itM_b (B := B) (F := (nuM B F x).1) (x := x) x with q | ⟨j, hj, q⟩
        · exact absurd q c
        · rw [q]
          have := h2 j hj
          omega
      · rw [upN_ne _ _ e]
        have := h2 k (by omega)
        omega
def lbW (r : Nat → Nat) (n : Nat) (F : Nat → Nat) (u : Nat) : Nat → Nat := fun p => if 1240 * n + 49 ≤ p ∧ p < 1240 * n + 49 + u then F (p - (1240 * n + 49)) else r p
theorem lbW_s (r : Nat → Nat) (n : Nat) (F : Nat → Nat) (u : Nat) : upN (lbW r n F u) (1240 * n + (49 + u)) (F u) = lbW r n F (u + 1) := by
  funext p
  unfold upN lbW
  by_cases h : p = 1240 * n + (49 + u)
  · rw [if_pos h, if_pos (by omega)]
    congr 1
    omega
  · rw [if_neg h]
    by_cases h2 : 1240 * n + 49 ≤ p ∧ p < 1240 * n + 49 + u
    · rw [if_pos h2, if_pos (by omega)]
    · rw [if_neg h2, if_neg (by omega)]
def MS.lab (S : MS) (k : Nat) : Nat := S.rw (49 + k)
/-- the labels become numbers -/
def MS.nmb (S : MS) : MS := (S.s_fsh (nuM S.lab S.fsh (S.rw 0)).1).s_rws (lbW S.rws S.now (nuM S.lab S.fsh (S.rw 0)).1 (S.rw 0))
section
variable {v : Ev} {h : Hp} {top m : Nat} {S : MS} {G : GT} {cn : Nat} {cc : Nat → Int}
theorem c_mStep {x y : Nat} (hl : lad S G cn cc) (hn : G.n ≤ 6) (hx : x < 6) (hy : y < 6) (hW : ∀ k, k < 36 → G.W k ≤ 9) : Cal v mX11_step 3 0 0 [.ref m, .int (nI x), .int (nI y)] (mH v h m S) top (pV (mH v h m (S.fra (stN G.W G.n x y) (stD G.W G.n x))) top) noX := by
  have hd := degN_le (x := x) hn hx hW
  have hw := hW (x * 6 + y) (by omega)
  refine Cal.ofJ (by decide +kernel) rfl (Nat.le_of_ble_eq_true rfl) fun hz0 => ?_
  refine r_ls [some (.ref m), some (.int (nI x)), some (.int (nI y))] rfl ?_
  refine r_aload_n (pc := 0) (i := 0) (tX11_step.at 0 rfl) rfl rfl ?_
  refine r_get (pc := 1) (tX11_step.at 1 rfl) gf_X11_29 (mH_0) rfl ?_
  refine r_iload_n (pc := 4) (i := 1) (tX11_step.at 2 rfl) rfl rfl ?_
  refine r_iald (pc := 5) (tX11_step.at 3 rfl) (mH_dgs) (x) (rfl) (by omega) (Nat.le_of_ble_eq_true rfl) ?_
  refine r_eq rfl (st2 := [.int (nI (degN G.W x G.n))]) (by rw [← hl.2 x hx]; rfl) ?_
  refine r_if_neN (pc := 6) 27 (tX11_step.at 4 rfl) (by decide) (by omega) (fun c => ?_) (fun c => ?_)
  · rw [stN, if_neg c, stD, if_neg c]
    refine r_aload_n (pc := 27) (i := 0) (tX11_step.at 15 rfl) rfl rfl ?_
    refine r_aload_n (pc := 28) (i := 0) (tX11_step.at 16 rfl) rfl rfl ?_
    refine r_get (pc := 29) (tX11_step.at 17 rfl) gf_X11_23 (mH_0) rfl ?_
    refine r_bipush (pc := 32) (w := nI 6) (tX11_step.at 18 rfl) (by decide) ?_
    refine r_iload_n (pc := 34) (i := 1) (tX11_step.at 19 rfl) rfl rfl ?_
    first | refine r_imulN (pc := 35) (tX11_step.at 20 rfl) ?_ | refine r_imulZ (pc := 35) (tX11_step.at 20 rfl) ?_ | refine r_imul (pc := 35) (tX11_step.at 20 rfl) ?_
    refine r_iload_n (pc := 36) (i := 2) (tX11_step.at 21 rfl) rfl rfl ?_
    first | refine r_iaddN (pc := 37) (tX11_step.at 22 rfl) ?_ | refine r_iaddZ (pc := 37) (tX11_step.at 22 rfl) ?_ | refine r_iadd (pc := 37) (tX11_step.at 22 rfl) ?_
    refine r_iald (pc := 38) (tX11_step.at 23 rfl) (mH_wts) (6 * x + y) (rfl) (by omega) (Nat.le_of_ble_eq_true rfl) ?_
    refine r_eq rfl (st2 := [.int (nI (G.W (x * 6 + y))), .ref m]) (by rw [← (hl.1 x y hx hy).1]; rfl) ?_
    first | refine r_i2lN (pc := 39) (tX11_step.at 24 rfl) (by omega) ?_ | refine r_i2lZ (pc := 39) (tX11_step.at 24 rfl) ⟨by omega, by omega⟩ ?_ | refine r_i2l (pc := 39) (tX11_step.at 24 rfl) ?_
    refine r_aload_n (pc := 40) (i := 0) (tX11_step.at 25 rfl) rfl rfl ?_
    refine r_get (pc := 41) (tX11_step.at 26 rfl) gf_X11_29 (mH_0) rfl ?_
    refine r_iload_n (pc := 44) (i := 1) (tX11_step.at 27 rfl) rfl rfl ?_
    refine r_iald (pc := 45) (tX11_step.at 28 rfl) (mH_dgs) (x) (rfl) (by omega) (Nat.le_of_ble_eq_true rfl) ?_
    refine r_eq rfl (st2 := [.int (nI (degN G.W x G.n)), .long (lI (G.W (x * 6 + y) : Nat)), .ref m]) (by rw [← hl.2 x hx]; rfl) ?_
    first | refine r_i2lN (pc := 46) (tX11_step.at 29 rfl) (by omega) ?_ | refine r_i2lZ (pc := 46) (tX11_step.at 29 rfl) ⟨by omega, by omega⟩ ?_ | refine r_i2l (pc := 46) (tX11_step.at 29 rfl) ?_
    refine r_callV (M' := mX11_fraction) (pc := 47) (tX11_step.at 30 rfl) ml_X11_245 rfl mw_X11_fraction ⟨by decide, by decide⟩ (mH_0) rfl rfl (c_mFrac ⟨by omega, by omega⟩ ⟨by omega, by omega⟩) rfl rfl (Nat.le_of_ble_eq_true rfl) (Nat.le_of_ble_eq_true rfl) (Nat.le_of_ble_eq_true rfl) ?_
    rintro _ _ _ ⟨rfl, rfl, rfl⟩
    refine r_vret (pc := 50) (tX11_step.at 31 rfl) rfl (Nat.le_of_ble_eq_true rfl) (Nat.le_of_ble_eq_true rfl) ?_
    exact ⟨rfl, rfl, rfl⟩
  · rw [stN, if_pos c, stD, if_pos c]
    refine r_aload_n (pc := 9) (i := 0) (tX11_step.at 5 rfl) rfl rfl ?_
    refine r_iload_n (pc := 10) (i := 1) (tX11_step.at 6 rfl) rfl rfl ?_
    refine r_iload_n (pc := 11) (i := 2) (tX11_step.at 7 rfl) rfl rfl ?_
    refine r_icmp_neN (pc := 12) 19 (tX11_step.at 8 rfl) (by decide) (by omega) (by omega) (fun c2 => ?_) (fun c2 => ?_)
    · rw [if_neg c2]
      refine r_lconst (pc := 19) (w := lI 0) (tX11_step.at 11 rfl) (by decide) ?_
      refine r_lconst (pc := 20) (w := lI 1) (tX11_step.at 12 rfl) (by decide) ?_
      refine r_callV (M' := mX11_fraction) (pc := 21) (tX11_step.at 13 rfl) ml_X11_245 rfl mw_X11_fraction ⟨by decide, by decide⟩ (mH_0) rfl rfl (c_mFrac ⟨by omega, by omega⟩ ⟨by omega, by omega⟩) rfl rfl (Nat.le_of_ble_eq_true rfl) (Nat.le_of_ble_eq_true rfl) (Nat.le_of_ble_eq_true rfl) ?_
      rintro _ _ _ ⟨rfl, rfl, rfl⟩
      refine r_goto (pc := 24) 50 (tX11_step.at 14 rfl) (by decide) ?_
      refine r_vret (pc := 50) (tX11_step.at 31 rfl) rfl (Nat.le_of_ble_eq_true rfl) (Nat.le_of_ble_eq_true rfl) ?_
      exact ⟨rfl, rfl, rfl⟩
    · rw [if_pos c2]
      refine r_lconst (pc := 15) (w := lI 1) (tX11_step.at 9 rfl) (by decide) ?_
      refine r_goto (pc := 16) 20 (tX11_step.at 10 rfl) (by decide) ?_
      refine r_lconst (pc := 20) (w := lI 1) (tX11_step.at 12 rfl) (by decide) ?_
      refine r_callV (M' := mX11_fraction) (pc := 21) (tX11_step.at 13 rfl) ml_X11_245 rfl mw_X11_fraction ⟨by decide, by decide⟩ (mH_0) rfl rfl (c_mFrac ⟨by omega, by omega⟩ ⟨by omega, by omega⟩) rfl rfl (Nat.le_of_ble_eq_true rfl) (Nat.le_of_ble_eq_true rfl) (Nat.le_of_ble_eq_true rfl) ?_
      rintro _ _ _ ⟨rfl, rfl, rfl⟩
      refine r_goto (pc := 24) 50 (tX11_step.at 14 rfl) (by decide) ?_
      refine r_vret (pc := 50) (tX11_step.at 31 rfl) rfl (Nat.le_of_ble_eq_true rfl) (Nat.le_of_ble_eq_true rfl) ?_
      exact ⟨rfl, rfl, rfl⟩
theorem c_mCanGo {z y : Int} (hr : RW S G cn cc) (hz : inI z) (hy : inI y) : Cal v mX11_canGo 6 0 0 [.ref m, .int (zI z), .int (zI y)] (mH v h m S) top (pSt v h m S top G cn cc (goT G z y)) noX := by
  refine Cal.ofJ (by decide +kernel) rfl (Nat.le_of_ble_eq_true rfl) fun hz0 => ?_
  refine r_ls [some (.ref m), some (.int (zI z)), some (.int (zI y))] rfl ?_
  generalize hPo : pSt v h m S top G cn cc (goT G z y) = Po
  refine r_aload_n (pc := 0) (i := 0) (tX11_canGo.at 0 rfl) rfl rfl ?_
  refine r_iload_n (pc := 1) (i := 1) (tX11_canGo.at 1 rfl) rfl rfl ?_
  refine r_iload_n (pc := 2) (i := 2) (tX11_canGo.at 2 rfl) rfl rfl ?_
  refine r_callV (M' := mX11_starts2) (pc := 3) (tX11_canGo.at 3 rfl) ml_X11_277 rfl mw_X11_starts2 ⟨by decide, by decide⟩ (mH_0) rfl rfl ((c_mStarts2 hr hz hy)) rfl rfl (Nat.le_of_ble_eq_true rfl) (Nat.le_of_ble_eq_true rfl) (Nat.le_of_ble_eq_true rfl) ?_
  rintro _ _ _ ⟨rfl, rfl, S1, rfl, p1, t1, l1⟩
  by_cases cz : vtT G z = 0
  · rw [if_pos cz] at t1 ⊢
    by_cases cy : vtT G y = 0
    · rw [cy] at t1 ⊢
      rw [decide_eq_true rfl, Bool.toNat_true]
      refine r_if_eqN (pc := 6) 30 (tX11_canGo.at 4 rfl) (by decide) (by omega) (fun c => by omega) (fun _ => ?_)
      obtain ⟨i, rfl, hi⟩ := vt_nat cz
      obtain ⟨j, rfl, hj⟩ := vt_nat cy
      have h6 := hr.2.1.1.1
      rw [zI_nat, zI_nat] at *
      have g1 := p1.rwG hr.1
      refine r_aload_n (pc := 9) (i := 0) (tX11_canGo.at 5 rfl) rfl rfl ?_
      refine r_aload_n (pc := 10) (i := 0) (tX11_canGo.at 6 rfl) rfl rfl ?_
      refine r_iload_n (pc := 11) (i := 1) (tX11_canGo.at 7 rfl) rfl rfl ?_
      refine r_callV (M' := mX11_reachedFrom) (pc := 12) (tX11_canGo.at 8 rfl) ml_X11_249 rfl mw_X11_reachedFrom ⟨by decide, by decide⟩ (mH_0) rfl rfl (c_mReach g1 l1 h6 (by omega) hr.2.1.w9) rfl rfl (Nat.le_of_ble_eq_true rfl) (Nat.le_of_ble_eq_true rfl) (Nat.le_of_ble_eq_true rfl) ?_
      rintro _ _ _ ⟨rfl, rfl, rfl⟩
      refine r_iload_n (pc := 15) (i := 2) (tX11_canGo.at 9 rfl) rfl rfl ?_
      refine r_callS (M' := mX11_has) (pc := 16) (tX11_canGo.at 10 rfl) ml_X11_221 rfl mw_X11_has ⟨by decide, by decide⟩ (c_mHas (rcm_lt (by omega) h6) (show j < 8 by omega)) rfl rfl (Nat.le_of_ble_eq_true rfl) (Nat.le_of_ble_eq_true rfl) (Nat.le_of_ble_eq_true rfl) ?_
      rintro _ _ _ ⟨rfl, rfl, rfl⟩
      refine r_iconst (pc := 19) (w := nI 2) (tX11_canGo.at 11 rfl) (by decide) ?_
      refine r_callV (M' := mX11_right) (pc := 20) (tX11_canGo.at 12 rfl) ml_X11_190 rfl mw_X11_right ⟨by decide, by decide⟩ (mH_0) rfl rfl (c_mRight (S := S1) (by omega) (by omega)) rfl rfl (Nat.le_of_ble_eq_true rfl) (Nat.le_of_ble_eq_true rfl) (Nat.le_of_ble_eq_true rfl) ?_
      rintro _ _ _ ⟨rfl, rfl, rfl⟩
      generalize hb : (rcm G.W G.n i).testBit j = b
      obtain ⟨q1, q2, q3, q4, q5⟩ := rgt_pel (S := S1) (b := b) (c := 2)
      have e5 : (S1.rgt b 2).thr = goT G i j := by
        rw [q5, t1, goT, if_pos cz, if_pos cy, Int.toNat_natCast, Int.toNat_natCast, hb]
        cases b <;> simp
      have fin : ∀ b2 : Nat, b2 = Bool.toNat (decide (goT G i j = 0)) → Po (some (.int (nI b2))) (mH v h m (S1.rgt b 2)) top := by
        intro b2 hb2
        subst hPo
        exact ⟨by rw [hb2], rfl, _, rfl, per.trans p1 q1, e5, l1.rgt⟩
      rw [show okT0 (S1.rgt b 2) = decide (goT G i j = 0) by unfold okT0; rw [e5]]
      by_cases c2 : goT G i j = 0
      · rw [decide_eq_true c2, Bool.toNat_true] at fin ⊢
        refine r_if_eqN (pc := 23) 30 (tX11_canGo.at 13 rfl) (by decide) (by omega) (fun c => by omega) (fun _ => ?_)
        refine r_iconst (pc := 26) (w := nI 1) (tX11_canGo.at 14 rfl) (by decide) ?_
        refine r_goto (pc := 27) 31 (tX11_canGo.at 15 rfl) (by decide) ?_
        refine r_zret (pc := 31) (tX11_canGo.at 17 rfl) rfl (rfl) (Nat.le_of_ble_eq_true rfl) (Nat.le_of_ble_eq_true rfl) ?_
        exact fin 1 rfl
      · rw [decide_eq_false c2, Bool.toNat_false] at fin ⊢
        refine r_if_eqN (pc := 23) 30 (tX11_canGo.at 13 rfl) (by decide) (by omega) (fun _ => ?_) (fun c => by omega)
        refine r_iconst (pc := 30) (w := nI 0) (tX11_canGo.at 16 rfl) (by decide) ?_
        refine r_zret (pc := 31) (tX11_canGo.at 17 rfl) rfl (rfl) (Nat.le_of_ble_eq_true rfl) (Nat.le_of_ble_eq_true rfl) ?_
        exact fin 0 rfl
    · have cy1 : vtT G y = 1 := by unfold vtT at *; split <;> simp_all
      rw [cy1] at t1 ⊢
      rw [decide_eq_false (by omega), Bool.toNat_false]
      refine r_if_eqN (pc := 6) 30 (tX11_canGo.at 4 rfl) (by decide) (by omega) (fun _ => ?_) (fun c => by omega)
      refine r_iconst (pc := 30) (w := nI 0) (tX11_canGo.at 16 rfl) (by decide) ?_
      refine r_zret (pc := 31) (tX11_canGo.at 17 rfl) rfl (rfl) (Nat.le_of_ble_eq_true rfl) (Nat.le_of_ble_eq_true rfl) ?_
      subst hPo
      exact ⟨by rw [goT, if_pos cz, if_neg cy]; rfl, rfl, S1, rfl, p1, by rw [goT, if_pos cz, if_neg cy]; exact t1, l1⟩
  · rw [if_neg cz] at t1 ⊢
    rw [decide_eq_false (by omega), Bool.toNat_false]
    refine r_if_eqN (pc := 6) 30 (tX11_canGo.at 4 rfl) (by decide) (by omega) (fun _ => ?_) (fun c => by omega)
    refine r_iconst (pc := 30) (w := nI 0) (tX11_canGo.at 16 rfl) (by decide) ?_
    refine r_zret (pc := 31) (tX11_canGo.at 17 rfl) rfl (rfl) (Nat.le_of_ble_eq_true rfl) (Nat.le_of_ble_eq_true rfl) ?_
    subst hPo
    exact ⟨by rw [goT, if_neg cz]; rfl, rfl, S1, rfl, p1, by rw [goT, if_neg cz]; exact t1, l1⟩
theorem c_mBlocks (hn : S.now < 9) (h6 : S.rw 0 ≤ 6) (hB : ∀ k, k < S.rw 0 → S.lab k ≤ 6) : Cal v mX11_blocksNow 3 0 0 [.ref m] (mH v h m S) top (pR (.int (nI (bkM S.lab (S.rw 0)))) (mH v h m S) top) noX := by
  have hb : ∀ u, u ≤ S.rw 0 → bkM S.lab u ≤ 7 := by
    intro u
    induction u with
    | zero => intro _; simp [bkM]
    | succ u ih =>
      intro hu
      have h1 := ih (by omega)
      have h2 := hB u (by omega)
      rw [bkM]
      omega
  refine Cal.ofJ (by decide +kernel) rfl (Nat.le_of_ble_eq_true rfl) fun hz0 => ?_
  refine r_ls [some (.ref m), none, none] rfl ?_
  refine r_iconst (pc := 0) (w := nI 0) (tX11_blocksNow.at 0 rfl) (by decide) ?_
  refine r_istore_n (pc := 1) (i := 1) (tX11_blocksNow.at 1 rfl) rfl (by decide) ?_
  refine r_iconst (pc := 2) (w := nI 0) (tX11_blocksNow.at 2 rfl) (by decide) ?_
  refine r_istore_n (pc := 3) (i := 2) (tX11_blocksNow.at 3 rfl) rfl (by decide) ?_
  refine down (n := S.rw 0) (P := fun u => J v mX11_blocksNow (rmOf 3 0 0) (KM v (pR (.int (nI (bkM S.lab (S.rw 0)))) (mH v h m S) top) noX 0 0) top 0 0 (mH v h m S) top 4 [some (.ref m), some (.int (nI (bkM S.lab u))), some (.int (nI u))] []) ?_ ?_ 0 (by omega)
  · refine r_iload_n (pc := 4) (i := 2) (tX11_blocksNow.at 4 rfl) rfl rfl ?_
    refine r_aload_n (pc := 5) (i := 0) (tX11_blocksNow.at 5 rfl) rfl rfl ?_
    refine r_callV (M' := mX11_count) (pc := 6) (tX11_blocksNow.at 6 rfl) ml_X11_218 rfl mw_X11_count ⟨by decide, by decide⟩ (mH_0) rfl rfl (c_mCount hn) rfl rfl (Nat.le_of_ble_eq_true rfl) (Nat.le_of_ble_eq_true rfl) (Nat.le_of_ble_eq_true rfl) ?_
    rintro _ _ _ ⟨rfl, rfl, rfl⟩
    refine r_icmp_geN (pc := 9) 33 (tX11_blocksNow.at 7 rfl) (by decide) (by omega) (by omega) (fun _ => ?_) (fun c => by omega)
    refine r_iload_n (pc := 33) (i := 1) (tX11_blocksNow.at 20 rfl) rfl rfl ?_
    refine r_iret (pc := 34) (tX11_blocksNow.at 21 rfl) rfl (Nat.le_of_ble_eq_true rfl) (Nat.le_of_ble_eq_true rfl) ?_
    exact ⟨rfl, rfl, rfl⟩
  · intro u hu ih
    have h1 := hb u (by omega)
    have h2 := hB u hu
    refine r_iload_n (pc := 4) (i := 2) (tX11_blocksNow.at 4 rfl) rfl rfl ?_
    refine r_aload_n (pc := 5) (i := 0) (tX11_blocksNow.at 5 rfl) rfl rfl ?_
    refine r_callV (M' := mX11_count) (pc := 6) (tX11_blocksNow.at 6 rfl) ml_X11_218 rfl mw_X11_count ⟨by decide, by decide⟩ (mH_0) rfl rfl (c_mCount hn) rfl rfl (Nat.le_of_ble_eq_true rfl) (Nat.le_of_ble_eq_true rfl) (Nat.le_of_ble_eq_true rfl) ?_
    rintro _ _ _ ⟨rfl, rfl, rfl⟩
    refine r_icmp_geN (pc := 9) 33 (tX11_blocksNow.at 7 rfl) (by decide) (by omega) (by omega) (fun c => by omega) (fun _ => ?_)
    refine r_iload_n (pc := 12) (i := 1) (tX11_blocksNow.at 8 rfl) rfl rfl ?_
    refine r_aload_n (pc := 13) (i := 0) (tX11_blocksNow.at 9 rfl) rfl rfl ?_
    refine r_bipush (pc := 14) (w := nI 49) (tX11_blocksNow.at 10 rfl) (by decide) ?_
    refine r_iload_n (pc := 16) (i := 2) (tX11_blocksNow.at 11 rfl) rfl rfl ?_
    first | refine r_iaddN (pc := 17) (tX11_blocksNow.at 12 rfl) ?_ | refine r_iaddZ (pc := 17) (tX11_blocksNow.at 12 rfl) ?_ | refine r_iadd (pc := 17) (tX11_blocksNow.at 12 rfl) ?_
    refine r_callV (M' := mX11_get) (pc := 18) (tX11_blocksNow.at 13 rfl) ml_X11_61 rfl mw_X11_get ⟨by decide, by decide⟩ (mH_0) rfl rfl (c_mGet (k := 49 + u) hn (by omega)) rfl rfl (Nat.le_of_ble_eq_true rfl) (Nat.le_of_ble_eq_true rfl) (Nat.le_of_ble_eq_true rfl) ?_
    rintro _ _ _ ⟨rfl, rfl, rfl⟩
    rw [show S.rw (49 + u) = S.lab u from rfl]
    refine r_iconst (pc := 21) (w := nI 1) (tX11_blocksNow.at 14 rfl) (by decide) ?_
    first | refine r_iaddN (pc := 22) (tX11_blocksNow.at 15 rfl) ?_ | refine r_iaddZ (pc := 22) (tX11_blocksNow.at 15 rfl) ?_ | refine r_iadd (pc := 22) (tX11_blocksNow.at 15 rfl) ?_
    first | refine r_mmaxN (pc := 23) (tX11_blocksNow.at 16 rfl) ml_X11_150 mw_max_s mw_math mw_max_c (Nat.le_of_ble_eq_true rfl) (Nat.le_of_ble_eq_true rfl) (Nat.le_of_ble_eq_true rfl) (Nat.le_of_ble_eq_true rfl) (by omega) (by omega) ?_ | refine r_mmaxZ (pc := 23) (tX11_blocksNow.at 16 rfl) ml_X11_150 mw_max_s mw_math mw_max_c (Nat.le_of_ble_eq_true rfl) (Nat.le_of_ble_eq_true rfl) (Nat.le_of_ble_eq_true rfl) (Nat.le_of_ble_eq_true rfl) ⟨by omega, by omega⟩ ⟨by omega, by omega⟩ ?_ | refine r_mmax (pc := 23) (tX11_blocksNow.at 16 rfl) ml_X11_150 mw_max_s mw_math mw_max_c (Nat.le_of_ble_eq_true rfl) (Nat.le_of_ble_eq_true rfl) (Nat.le_of_ble_eq_true rfl) (Nat.le_of_ble_eq_true rfl) ?_
    refine r_istore_n (pc := 26) (i := 1) (tX11_blocksNow.at 17 rfl) rfl (by decide) ?_
    first | refine r_iincN (pc := 27) (tX11_blocksNow.at 18 rfl) rfl (by decide) ?_ | refine r_iinc (pc := 27) (tX11_blocksNow.at 18 rfl) rfl rfl (by decide) ?_
    refine r_goto (pc := 30) 4 (tX11_blocksNow.at 19 rfl) (by decide) ?_
    exact ih
theorem c_mNumb (hn : S.now < 9) (h6 : S.rw 0 ≤ 6) (hB : ∀ k, k < S.rw 0 → S.lab k ≤ 6) : Cal v mX11_numbers 3 0 0 [.ref m] (mH v h m S) top (pV (mH v h m S.nmb) top) noX := by
  refine Cal.ofJ (by decide +kernel) rfl (Nat.le_of_ble_eq_true rfl) fun hz0 => ?_
  refine r_ls [some (.ref m), none, none, none, none] rfl ?_
  generalize hPo : pV (mH v h m S.nmb) top = Po
  have hs : ∀ F, (S.s_fsh F).rw 0 = S.rw 0 := fun F => rfl
  -- the labels are put
  have k2 : ∀ k u (F : Nat → Nat) o1 o3 o4, u + k = S.rw 0 → F = (nuM S.lab S.fsh (S.rw 0)).1 → J v mX11_numbers (rmOf 3 0 0) (KM v Po noX 0 0) top 0 0 (mH v h m ((S.s_fsh F).s_rws (lbW S.rws S.now F u))) top 94 [some (.ref m), o1, some (.int (nI u)), o3, o4] [] := by
    intro k
    have e0 : ∀ F u, ((S.s_fsh F).s_rws (lbW S.rws S.now F u)).rw 0 = S.rw 0 := fun F u => by
      show lbW S.rws S.now F u (1240 * S.now + 0) = _
      unfold lbW
      rw [if_neg (by omega)]
      rfl
    induction k with
    | zero =>
      intro u F o1 o3 o4 hu hF
      have hu : u = S.rw 0 := by omega
      subst hu
      refine r_iload_n (pc := 94) (i := 2) (tX11_numbers.at 56 rfl) rfl rfl ?_
      refine r_aload_n (pc := 95) (i := 0) (tX11_numbers.at 57 rfl) rfl rfl ?_
      refine r_callV (M' := mX11_count) (pc := 96) (tX11_numbers.at 58 rfl) ml_X11_218 rfl mw_X11_count ⟨by decide, by decide⟩ (mH_0) rfl rfl (c_mCount (S := (S.s_fsh F).s_rws (lbW S.rws S.now F (S.rw 0))) hn) rfl rfl (Nat.le_of_ble_eq_true rfl) (Nat.le_of_ble_eq_true rfl) (Nat.le_of_ble_eq_true rfl) ?_
      rintro _ _ _ ⟨rfl, rfl, rfl⟩
      rw [e0]
      refine r_icmp_geN (pc := 99) 122 (tX11_numbers.at 59 rfl) (by decide) (by omega) (by omega) (fun _ => ?_) (fun c => by omega)
      refine r_vret (pc := 122) (tX11_numbers.at 71 rfl) rfl (Nat.le_of_ble_eq_true rfl) (Nat.le_of_ble_eq_true rfl) ?_
      subst hPo
      rw [hF]
      exact ⟨rfl, rfl, rfl⟩
    | succ k ih =>
      intro u F o1 o3 o4 hu hF
      refine r_iload_n (pc := 94) (i := 2) (tX11_numbers.at 56 rfl) rfl rfl ?_
      refine r_aload_n (pc := 95) (i := 0) (tX11_numbers.at 57 rfl) rfl rfl ?_
      refine r_callV (M' := mX11_count) (pc := 96) (tX11_numbers.at 58 rfl) ml_X11_218 rfl mw_X11_count ⟨by decide, by decide⟩ (mH_0) rfl rfl (c_mCount (S := (S.s_fsh F).s_rws (lbW S.rws S.now F u)) hn) rfl rfl (Nat.le_of_ble_eq_true rfl) (Nat.le_of_ble_eq_true rfl) (Nat.le_of_ble_eq_true rfl) ?_
      rintro _ _ _ ⟨rfl, rfl, rfl⟩
      rw [e0]
      refine r_icmp_geN (pc := 99) 122 (tX11_numbers.at 59 rfl) (by decide) (by omega) (by omega) (fun c => by omega) (fun _ => ?_)
      refine r_aload_n (pc := 102) (i := 0) (tX11_numbers.at 60 rfl) rfl rfl ?_
      refine r_bipush (pc := 103) (w := nI 49) (tX11_numbers.at 61 rfl) (by decide) ?_
      refine r_iload_n (pc := 105) (i := 2) (tX11_numbers.at 62 rfl) rfl rfl ?_
      first | refine r_iaddN (pc := 106) (tX11_numbers.at 63 rfl) ?_ | refine r_iaddZ (pc := 106) (tX11_numbers.at 63 rfl) ?_ | refine r_iadd (pc := 106) (tX11_numbers.at 63 rfl) ?_
      refine r_aload_n (pc := 107) (i := 0) (tX11_numbers.at 64 rfl) rfl rfl ?_
      refine r_get (pc := 108) (tX11_numbers.at 65 rfl) gf_X11_45 (mH_0) rfl ?_
      refine r_iload_n (pc := 111) (i := 2) (tX11_numbers.at 66 rfl) rfl rfl ?_
      refine r_iald (pc := 112) (tX11_numbers.at 67 rfl) (mH_fsh) (u) (rfl) (by omega) (Nat.le_of_ble_eq_true rfl) ?_
      refine r_eq rfl (st2 := [.int (nI (F u)), .int (nI (49 + u)), .ref m]) rfl ?_
      refine r_callV (M' := mX11_put) (pc := 113) (tX11_numbers.at 68 rfl) ml_X11_200 rfl mw_X11_put ⟨by decide, by decide⟩ (mH_0) rfl rfl (c_mPut (S := (S.s_fsh F).s_rws (lbW S.rws S.now F u)) (k := 49 + u) (y := F u) hn (by omega)) rfl rfl (Nat.le_of_ble_eq_true rfl) (Nat.le_of_ble_eq_true rfl) (Nat.le_of_ble_eq_true rfl) ?_
      rintro _ _ _ ⟨rfl, rfl, rfl⟩
      refine r_eq (h2 := mH v h m ((S.s_fsh F).s_rws (lbW S.rws S.now F (u + 1)))) (by rw [← lbW_s]; rfl) rfl ?_
      first | refine r_iincN (pc := 116) (tX11_numbers.at 69 rfl) rfl (by decide) ?_ | refine r_iinc (pc := 116) (tX11_numbers.at 69 rfl) rfl rfl (by decide) ?_
      refine r_goto (pc := 119) 94 (tX11_numbers.at 70 rfl) (by decide) ?_
      exact ih (u + 1) F _ _ _ (by omega) hF
  have k1 : ∀ k x o3 o4, x + k = S.rw 0 → J v mX11_numbers (rmOf 3 0 0) (KM v Po noX 0 0) top 0 0 (mH v h m (S.s_fsh (nuM S.lab S.fsh x).1)) top 4 [some (.ref m), some (.int (nI (nuM S.lab S.fsh x).2)), some (.int (nI x)), o3, o4] [] := by
    intro k
    induction k with
    | zero =>
      intro x o3 o4 hx
      have hx : x = S.rw 0 := by omega
      refine r_iload_n (pc := 4) (i := 2) (tX11_numbers.at 4 rfl) rfl rfl ?_
      refine r_aload_n (pc := 5) (i := 0) (tX11_numbers.at 5 rfl) rfl rfl ?_
      refine r_callV (M' := mX11_count) (pc := 6) (tX11_numbers.at 6 rfl) ml_X11_218 rfl mw_X11_count ⟨by decide, by decide⟩ (mH_0) rfl rfl (c_mCount (S := S.s_fsh (nuM S.lab S.fsh x).1) hn) rfl rfl (Nat.le_of_ble_eq_true rfl) (Nat.le_of_ble_eq_true rfl) (Nat.le_of_ble_eq_true rfl) ?_
      rintro _ _ _ ⟨rfl, rfl, rfl⟩
      rw [hs]
      refine r_icmp_geN (pc := 9) 92 (tX11_numbers.at 7 rfl) (by decide) (by omega) (by omega) (fun _ => ?_) (fun c => by omega)
      refine r_iconst (pc := 92) (w := nI 0) (tX11_numbers.at 54 rfl) (by decide) ?_
      refine r_istore_n (pc := 93) (i := 2) (tX11_numbers.at 55 rfl) rfl (by decide) ?_
      subst hx
      refine r_eq (h2 := mH v h m ((S.s_fsh (nuM S.lab S.fsh (S.rw 0)).1).s_rws (lbW S.rws S.now (nuM S.lab S.fsh (S.rw 0)).1 0))) ?_ rfl ?_
      · rw [show lbW S.rws S.now (nuM S.lab S.fsh (S.rw 0)).1 0 = S.rws by funext p; unfold lbW; rw [if_neg (by omega)]]
        rfl
      · exact k2 _ 0 _ _ _ _ (Nat.zero_add _) rfl
    | succ k ih =>
      intro x o3 o4 hx
      have nx := fun o3 o4 => ih (x + 1) o3 o4 (by omega)
      obtain ⟨b1, b2⟩ := nuM_b (B := S.lab) (F := S.fsh) x
      rw [nuM] at nx
      generalize hF : (nuM S.lab S.fsh x).1 = F at *
      generalize hc : (nuM S.lab S.fsh x).2 = c at *
      refine r_iload_n (pc := 4) (i := 2) (tX11_numbers.at 4 rfl) rfl rfl ?_
      refine r_aload_n (pc := 5) (i := 0) (tX11_numbers.at 5 rfl) rfl rfl ?_
      refine r_callV (M' := mX11_count) (pc := 6) (tX11_numbers.at 6 rfl) ml_X11_218 rfl mw_X11_count ⟨by decide, by decide⟩ (mH_0) rfl rfl (c_mCount (S := S.s_fsh F) hn) rfl rfl (Nat.le_of_ble_eq_true rfl) (Nat.le_of_ble_eq_true rfl) (Nat.le_of_ble_eq_true rfl) ?_
      rintro _ _ _ ⟨rfl, rfl, rfl⟩
      rw [hs]
      refine r_icmp_geN (pc := 9) 92 (tX11_numbers.at 7 rfl) (by decide) (by omega) (by omega) (fun c => by omega) (fun _ => ?_)
      refine r_iconst (pc := 12) (w := zI (-1)) (tX11_numbers.at 8 rfl) (by decide) ?_
      refine r_istore_n (pc := 13) (i := 3) (tX11_numbers.at 9 rfl) rfl (by decide) ?_
      refine r_iconst (pc := 14) (w := nI 0) (tX11_numbers.at 10 rfl) (by decide) ?_
      refine r_istore (pc := 15) (i := 4) (tX11_numbers.at 11 rfl) (by decide) ?_
      have itb : ∀ u, u ≤ x → -1 ≤ itM S.lab F x u ∧ itM S.lab F x u ≤ 6 := by
        intro u hu
        rcases itM_b (B := S.lab) (F := F) (x := x) u with q | ⟨j, hj, q⟩
        · omega
        · have := b2 j (by omega)
          omega
      have inner : ∀ k u, u + k = x → J v mX11_numbers (rmOf 3 0 0) (KM v Po noX 0 0) top 0 0 (mH v h m (S.s_fsh F)) top 17 [some (.ref m), some (.int (nI c)), some (.int (nI x)), some (.int (zI (itM S.lab F x u))), some (.int (nI u))] [] := by
        intro k
        induction k with
        | zero =>
          intro u hu
          have hu : u = x := by omega
          subst hu
          refine r_iload (pc := 17) (i := 4) (tX11_numbers.at 12 rfl) rfl ?_
          refine r_iload_n (pc := 19) (i := 2) (tX11_numbers.at 13 rfl) rfl rfl ?_
          refine r_icmp_geN (pc := 20) 57 (tX11_numbers.at 14 rfl) (by decide) (by omega) (by omega) (fun _ => ?_) (fun c => by omega)
          generalize ht : itM S.lab F u u = t at *
          have htb := itb u (Nat.le_refl _)
          rw [ht] at htb
          have fin : ∀ y d : Nat, (y, d) = (if t = -1 then (c, 1) else (t.toNat, 0)) → J v mX11_numbers (rmOf 3 0 0) (KM v Po noX 0 0) top 0 0 (mH v h m (S.s_fsh F)) top 72 [some (.ref m), some (.int (nI c)), some (.int (nI u)), some (.int (zI t)), some (.int (nI u))] [.int (nI y), .int (nI u), .ref (m + 11)] := by
            intro y d hyd
            have nx2 : ∀ o3 o4, J v mX11_numbers (rmOf 3 0 0) (KM v Po noX 0 0) top 0 0 (mH v h m (S.s_fsh (upN F u y))) top 4 [some (.ref m), some (.int (nI (c + d))), some (.int (nI (u + 1))), o3, o4] [] := by
              intro o3 o4
              have := nx o3 o4
              by_cases q : t = -1
              · rw [if_pos q] at hyd this
                cases hyd
                exact this
              · rw [if_neg q] at hyd this
                cases hyd
                exact this
            refine r_iast (pc := 72) (tX11_numbers.at 42 rfl) (mH_fsh) (u) (rfl) (by omega) (Nat.le_of_ble_eq_true rfl) ?_
            rw [show iF (S.s_fsh F).fsh = iF F from rfl, upd_iF, mH_sfsh]
            refine r_eq (h2 := mH v h m (S.s_fsh (upN F u y))) rfl rfl ?_
            refine r_iload_n (pc := 73) (i := 1) (tX11_numbers.at 43 rfl) rfl rfl ?_
            refine r_iload_n (pc := 74) (i := 3) (tX11_numbers.at 44 rfl) rfl rfl ?_
            refine r_iconst (pc := 75) (w := zI (-1)) (tX11_numbers.at 45 rfl) (by decide) ?_
            by_cases q : t = -1
            · rw [if_pos q] at hyd
              cases hyd
              refine r_icmp_neZ (pc := 76) 83 (tX11_numbers.at 46 rfl) (by decide) ⟨by omega, by omega⟩ ⟨by omega, by omega⟩ (fun c => by omega) (fun _ => ?_)
              refine r_iconst (pc := 79) (w := nI 1) (tX11_numbers.at 47 rfl) (by decide) ?_
              refine r_goto (pc := 80) 84 (tX11_numbers.at 48 rfl) (by decide) ?_
              first | refine r_iaddN (pc := 84) (tX11_numbers.at 50 rfl) ?_ | refine r_iaddZ (pc := 84) (tX11_numbers.at 50 rfl) ?_ | refine r_iadd (pc := 84) (tX11_numbers.at 50 rfl) ?_
              refine r_istore_n (pc := 85) (i := 1) (tX11_numbers.at 51 rfl) rfl (by decide) ?_
              first | refine r_iincN (pc := 86) (tX11_numbers.at 52 rfl) rfl (by decide) ?_ | refine r_iinc (pc := 86) (tX11_numbers.at 52 rfl) rfl rfl (by decide) ?_
              refine r_goto (pc := 89) 4 (tX11_numbers.at 53 rfl) (by decide) ?_
              exact nx2 _ _
            · rw [if_neg q] at hyd
              cases hyd
              refine r_icmp_neZ (pc := 76) 83 (tX11_numbers.at 46 rfl) (by decide) ⟨by omega, by omega⟩ ⟨by omega, by omega⟩ (fun _ => ?_) (fun c => by omega)
              refine r_iconst (pc := 83) (w := nI 0) (tX11_numbers.at 49 rfl) (by decide) ?_
              first | refine r_iaddN (pc := 84) (tX11_numbers.at 50 rfl) ?_ | refine r_iaddZ (pc := 84) (tX11_numbers.at 50 rfl) ?_ | refine r_iadd (pc := 84) (tX11_numbers.at 50 rfl) ?_
              refine r_istore_n (pc := 85) (i := 1) (tX11_numbers.at 51 rfl) rfl (by decide) ?_
              first | refine r_iincN (pc := 86) (tX11_numbers.at 52 rfl) rfl (by decide) ?_ | refine r_iinc (pc := 86) (tX11_numbers.at 52 rfl) rfl rfl (by decide) ?_
              refine r_goto (pc := 89) 4 (tX11_numbers.at 53 rfl) (by decide) ?_
              exact nx2 _ _
          refine r_aload_n (pc := 57) (i := 0) (tX11_numbers.at 33 rfl) rfl rfl ?_
          refine r_get (pc := 58) (tX11_numbers.at 34 rfl) gf_X11_45 (mH_0) rfl ?_
          refine r_iload_n (pc := 61) (i := 2) (tX11_numbers.at 35 rfl) rfl rfl ?_
          refine r_iload_n (pc := 62) (i := 3) (tX11_numbers.at 36 rfl) rfl rfl ?_
          refine r_iconst (pc := 63) (w := zI (-1)) (tX11_numbers.at 37 rfl) (by decide) ?_
          by_cases q : t = -1
          · refine r_icmp_neZ (pc := 64) 71 (tX11_numbers.at 38 rfl) (by decide) ⟨by omega, by omega⟩ ⟨by omega, by omega⟩ (fun c => by omega) (fun _ => ?_)
            refine r_iload_n (pc := 67) (i := 1) (tX11_numbers.at 39 rfl) rfl rfl ?_
            refine r_goto (pc := 68) 72 (tX11_numbers.at 40 rfl) (by decide) ?_
            exact fin c 1 (by rw [if_pos q])
          · refine r_icmp_neZ (pc := 64) 71 (tX11_numbers.at 38 rfl) (by decide) ⟨by omega, by omega⟩ ⟨by omega, by omega⟩ (fun _ => ?_) (fun c => by omega)
            refine r_iload_n (pc := 71) (i := 3) (tX11_numbers.at 41 rfl) rfl rfl ?_
            refine r_eq rfl (st2 := [.int (nI t.toNat), .int (nI u), .ref (m + 11)]) (by rw [← zI_nat t.toNat, show ((t.toNat : Nat) : Int) = t by omega]) ?_
            exact fin _ 0 (by rw [if_neg q])
        | succ k ih2 =>
          intro u hu
          have l1 := hB u (by omega)
          have l2 := hB x (by omega)
          have nx2 := ih2 (u + 1) (by omega)
          rw [itM] at nx2
          refine r_iload (pc := 17) (i := 4) (tX11_numbers.at 12 rfl) rfl ?_
          refine r_iload_n (pc := 19) (i := 2) (tX11_numbers.at 13 rfl) rfl rfl ?_
          refine r_icmp_geN (pc := 20) 57 (tX11_numbers.at 14 rfl) (by decide) (by omega) (by omega) (fun c => by omega) (fun _ => ?_)
          refine r_aload_n (pc := 23) (i := 0) (tX11_numbers.at 15 rfl) rfl rfl ?_
          refine r_bipush (pc := 24) (w := nI 49) (tX11_numbers.at 16 rfl) (by decide) ?_
          refine r_iload (pc := 26) (i := 4) (tX11_numbers.at 17 rfl) rfl ?_
          first | refine r_iaddN (pc := 28) (tX11_numbers.at 18 rfl) ?_ | refine r_iaddZ (pc := 28) (tX11_numbers.at 18 rfl) ?_ | refine r_iadd (pc := 28) (tX11_numbers.at 18 rfl) ?_
          refine r_callV (M' := mX11_get) (pc := 29) (tX11_numbers.at 19 rfl) ml_X11_61 rfl mw_X11_get ⟨by decide, by decide⟩ (mH_0) rfl rfl (c_mGet (S := S.s_fsh F) (k := 49 + u) hn (by omega)) rfl rfl (Nat.le_of_ble_eq_true rfl) (Nat.le_of_ble_eq_true rfl) (Nat.le_of_ble_eq_true rfl) ?_
          rintro _ _ _ ⟨rfl, rfl, rfl⟩
          refine r_aload_n (pc := 32) (i := 0) (tX11_numbers.at 20 rfl) rfl rfl ?_
          refine r_bipush (pc := 33) (w := nI 49) (tX11_numbers.at 21 rfl) (by decide) ?_
          refine r_iload_n (pc := 35) (i := 2) (tX11_numbers.at 22 rfl) rfl rfl ?_
          first | refine r_iaddN (pc := 36) (tX11_numbers.at 23 rfl) ?_ | refine r_iaddZ (pc := 36) (tX11_numbers.at 23 rfl) ?_ | refine r_iadd (pc := 36) (tX11_numbers.at 23 rfl) ?_
          refine r_callV (M' := mX11_get) (pc := 37) (tX11_numbers.at 24 rfl) ml_X11_61 rfl mw_X11_get ⟨by decide, by decide⟩ (mH_0) rfl rfl (c_mGet (S := S.s_fsh F) (k := 49 + x) hn (by omega)) rfl rfl (Nat.le_of_ble_eq_true rfl) (Nat.le_of_ble_eq_true rfl) (Nat.le_of_ble_eq_true rfl) ?_
          rintro _ _ _ ⟨rfl, rfl, rfl⟩
          rw [show (S.s_fsh F).rw (49 + u) = S.lab u from rfl, show (S.s_fsh F).rw (49 + x) = S.lab x from rfl]
          refine r_icmp_neN (pc := 40) 51 (tX11_numbers.at 25 rfl) (by decide) (by omega) (by omega) (fun q => ?_) (fun q => ?_)
          · rw [if_neg q] at nx2
            first | refine r_iincN (pc := 51) (tX11_numbers.at 31 rfl) rfl (by decide) ?_ | refine r_iinc (pc := 51) (tX11_numbers.at 31 rfl) rfl rfl (by decide) ?_
            refine r_goto (pc := 54) 17 (tX11_numbers.at 32 rfl) (by decide) ?_
            exact nx2
          · rw [if_pos q] at nx2
            refine r_aload_n (pc := 43) (i := 0) (tX11_numbers.at 26 rfl) rfl rfl ?_
            refine r_get (pc := 44) (tX11_numbers.at 27 rfl) gf_X11_45 (mH_0) rfl ?_
            refine r_iload (pc := 47) (i := 4) (tX11_numbers.at 28 rfl) rfl ?_
            refine r_iald (pc := 49) (tX11_numbers.at 29 rfl) (mH_fsh) (u) (rfl) (by omega) (Nat.le_of_ble_eq_true rfl) ?_
            refine r_eq rfl (st2 := [.int (zI (F u : Nat))]) (by rw [zI_nat]; rfl) ?_
            refine r_istore_n (pc := 50) (i := 3) (tX11_numbers.at 30 rfl) rfl (by decide) ?_
            first | refine r_iincN (pc := 51) (tX11_numbers.at 31 rfl) rfl (by decide) ?_ | refine r_iinc (pc := 51) (tX11_numbers.at 31 rfl) rfl rfl (by decide) ?_
            refine r_goto (pc := 54) 17 (tX11_numbers.at 32 rfl) (by decide) ?_
            exact nx2
      exact inner x 0 (by omega)
  refine r_iconst (pc := 0) (w := nI 0) (tX11_numbers.at 0 rfl) (by decide) ?_
  refine r_istore_n (pc := 1) (i := 1) (tX11_numbers.at 1 rfl) rfl (by decide) ?_
  refine r_iconst (pc := 2) (w := nI 0) (tX11_numbers.at 2 rfl) (by decide) ?_
  refine r_istore_n (pc := 3) (i := 2) (tX11_numbers.at 3 rfl) rfl (by decide) ?_
  exact k1 (S.rw 0) 0 _ _ (by omega)
end

