/-! ===== the reference: changes ===== -/
def pCg (v : Ev) (h : Hp) (m : Nat) (S : MS) (top : Nat) (w : Value) (t : Nat) (f : Nat → Nat) : Option Value → Hp → Nat → Prop := fun r h' top' => r = some w ∧ top = top' ∧ ∃ S', h' = mH v h m S' ∧ S'.thr = t ∧ (t ≠ 0 → per S S') ∧ (t = 0 → chd S S' f)
def swT (G : GT) (z y : Int) : Nat := if 0 ≤ z ∧ z < G.e then (if 1 ≤ y ∧ y ≤ 9 then 0 else 2) else 1
def reT (G : GT) (z : Int) : Nat := if 0 ≤ z ∧ z < G.e then 0 else 1
def aeT (G : GT) (z y w : Int) : Nat := if vtT G z = 0 then (if vtT G y = 0 then (if z ≠ y ∧ (1 ≤ w ∧ w ≤ 9) then (if G.W (z.toNat * 6 + y.toNat) = 0 then 0 else 3) else 2) else 1) else 1
/-- a stretch moved down by three -/
def shF (f : Nat → Nat) (a b : Nat) : Nat → Nat := fun j => if a ≤ j ∧ j < b then f (j + 3) else f j
theorem bs_dif2 : ∀ S, S < 64 → ∀ k, k < 6 → (nI S &&& (nI (2 ^ k) ^^^ zI (-1))) = nI (dif S (2 ^ k)) := by decide +kernel
section
variable {v : Ev} {h : Hp} {top m : Nat} {S : MS} {G : GT} {cn : Nat} {cc : Nat → Int}
theorem c_mSetW {z y : Int} (hg : rwG S G) (ok : okG G) (hu : S.und ≤ 8) (hz : inI z) (hy : inI y) : Cal v mX11_setWeight 4 0 0 [.ref m, .int (zI z), .int (zI y)] (mH v h m S) top (pCg v h m S top (iT (swT G z y) (nI (S.rw (4 + 3 * z.toNat + 2)))) (swT G z y) (upN S.rw (4 + 3 * z.toNat + 2) y.toNat)) noX := by
  have h15 := ok.2.1
  obtain ⟨y1, y2⟩ := hy
  refine Cal.ofJ (by decide +kernel) rfl (Nat.le_of_ble_eq_true rfl) fun hz0 => ?_
  refine r_ls [some (.ref m), some (.int (zI z)), some (.int (zI y)), none] rfl ?_
  generalize ht : swT G z y = t at *
  generalize hPo : pCg v h m S top (iT t _) t _ = Po
  have out : ∀ S', per S S' → S'.thr = t → t ≠ 0 → J v mX11_setWeight (rmOf 4 0 0) (KM v Po noX 0 0) top 0 0 (mH v h m S') top 25 [some (.ref m), some (.int (zI z)), some (.int (zI y)), none] [] := by
    intro S' p' t' tn
    refine r_iconst (pc := 25) (w := nI 0) (tX11_setWeight.at 13 rfl) (by decide) ?_
    refine r_iret (pc := 26) (tX11_setWeight.at 14 rfl) rfl (Nat.le_of_ble_eq_true rfl) (Nat.le_of_ble_eq_true rfl) ?_
    subst hPo
    exact ⟨by rw [iT, if_neg tn]; rfl, rfl, S', rfl, t', fun _ => p', fun q => absurd q tn⟩
  refine r_aload_n (pc := 0) (i := 0) (tX11_setWeight.at 0 rfl) rfl rfl ?_
  refine r_iload_n (pc := 1) (i := 1) (tX11_setWeight.at 1 rfl) rfl rfl ?_
  refine r_callV (M' := mX11_isEdge) (pc := 2) (tX11_setWeight.at 2 rfl) ml_X11_262 rfl mw_X11_isEdge ⟨by decide, by decide⟩ (mH_0) rfl rfl (c_mIsE hg.1 hz (by rw [hg.2.2.1]; exact h15)) rfl rfl (Nat.le_of_ble_eq_true rfl) (Nat.le_of_ble_eq_true rfl) (Nat.le_of_ble_eq_true rfl) ?_
  rintro _ _ _ ⟨rfl, rfl, rfl⟩
  rw [hg.2.2.1]
  by_cases c : 0 ≤ z ∧ z < G.e
  · rw [swT, if_pos c] at ht
    rw [inB_t.mpr c, rgtT (show (S.s_thr 0).thr = 0 from rfl), thr0_eq (show (S.s_thr 0).thr = 0 from rfl), Bool.toNat_true]
    refine r_if_eqN (pc := 5) 25 (tX11_setWeight.at 3 rfl) (by decide) (by omega) (fun c => by omega) (fun _ => ?_)
    refine r_aload_n (pc := 8) (i := 0) (tX11_setWeight.at 4 rfl) rfl rfl ?_
    refine r_iload_n (pc := 9) (i := 2) (tX11_setWeight.at 5 rfl) rfl rfl ?_
    refine r_i2lZ (pc := 10) (tX11_setWeight.at 6 rfl) ⟨by omega, by omega⟩ ?_
    refine r_lconst (pc := 11) (w := lI 1) (tX11_setWeight.at 7 rfl) (by decide) ?_
    refine r_ldc2 (pc := 12) (tX11_setWeight.at 8 rfl) lcL_X11_340 ?_
    refine r_callS (M' := mX11_isIn) (pc := 15) (tX11_setWeight.at 9 rfl) ml_X11_114 rfl mw_X11_isIn ⟨by decide, by decide⟩ (c_mIsIn ⟨by omega, by omega⟩ ⟨by omega, by omega⟩ ⟨by omega, by omega⟩) rfl rfl (Nat.le_of_ble_eq_true rfl) (Nat.le_of_ble_eq_true rfl) (Nat.le_of_ble_eq_true rfl) ?_
    rintro _ _ _ ⟨rfl, rfl, rfl⟩
    refine r_iconst (pc := 18) (w := nI 2) (tX11_setWeight.at 10 rfl) (by decide) ?_
    refine r_callV (M' := mX11_right) (pc := 19) (tX11_setWeight.at 11 rfl) ml_X11_190 rfl mw_X11_right ⟨by decide, by decide⟩ (mH_0) rfl rfl (c_mRight (S := S.s_thr 0) (show (0 : Nat) < 65536 by omega) (by omega)) rfl rfl (Nat.le_of_ble_eq_true rfl) (Nat.le_of_ble_eq_true rfl) (Nat.le_of_ble_eq_true rfl) ?_
    rintro _ _ _ ⟨rfl, rfl, rfl⟩
    by_cases c2 : 1 ≤ y ∧ y ≤ 9
    · rw [if_pos c2] at ht
      rw [show inB y 1 9 = true from decide_eq_true c2, rgtT (show (S.s_thr 0).thr = 0 from rfl), thr0_eq (show (S.s_thr 0).thr = 0 from rfl), Bool.toNat_true]
      refine r_if_neN (pc := 22) 27 (tX11_setWeight.at 12 rfl) (by decide) (by omega) (fun _ => ?_) (fun c => by omega)
      obtain ⟨i, rfl⟩ := Int.eq_ofNat_of_zero_le c.1
      obtain ⟨w, rfl⟩ := Int.eq_ofNat_of_zero_le (show 0 ≤ y by omega)
      rw [Int.toNat_natCast, Int.toNat_natCast] at *
      rw [zI_nat, zI_nat] at *
      refine r_aload_n (pc := 27) (i := 0) (tX11_setWeight.at 15 rfl) rfl rfl ?_
      refine r_iconst (pc := 28) (w := nI 4) (tX11_setWeight.at 16 rfl) (by decide) ?_
      refine r_iconst (pc := 29) (w := nI 3) (tX11_setWeight.at 17 rfl) (by decide) ?_
      refine r_iload_n (pc := 30) (i := 1) (tX11_setWeight.at 18 rfl) rfl rfl ?_
      first | refine r_imulN (pc := 31) (tX11_setWeight.at 19 rfl) ?_ | refine r_imulZ (pc := 31) (tX11_setWeight.at 19 rfl) ?_ | refine r_imul (pc := 31) (tX11_setWeight.at 19 rfl) ?_
      first | refine r_iaddN (pc := 32) (tX11_setWeight.at 20 rfl) ?_ | refine r_iaddZ (pc := 32) (tX11_setWeight.at 20 rfl) ?_ | refine r_iadd (pc := 32) (tX11_setWeight.at 20 rfl) ?_
      refine r_iconst (pc := 33) (w := nI 2) (tX11_setWeight.at 21 rfl) (by decide) ?_
      first | refine r_iaddN (pc := 34) (tX11_setWeight.at 22 rfl) ?_ | refine r_iaddZ (pc := 34) (tX11_setWeight.at 22 rfl) ?_ | refine r_iadd (pc := 34) (tX11_setWeight.at 22 rfl) ?_
      refine r_callV (M' := mX11_get) (pc := 35) (tX11_setWeight.at 23 rfl) ml_X11_61 rfl mw_X11_get ⟨by decide, by decide⟩ (mH_0) rfl rfl (c_mGet (S := S.s_thr 0) (k := 4 + 3 * i + 2) hg.1 (by omega)) rfl rfl (Nat.le_of_ble_eq_true rfl) (Nat.le_of_ble_eq_true rfl) (Nat.le_of_ble_eq_true rfl) ?_
      rintro _ _ _ ⟨rfl, rfl, rfl⟩
      rw [show (S.s_thr 0).rw (4 + 3 * i + 2) = S.rw (4 + 3 * i + 2) from rfl]
      refine r_istore_n (pc := 38) (i := 3) (tX11_setWeight.at 24 rfl) rfl (by decide) ?_
      refine r_aload_n (pc := 39) (i := 0) (tX11_setWeight.at 25 rfl) rfl rfl ?_
      refine r_callV (M' := mX11_change) (pc := 40) (tX11_setWeight.at 26 rfl) ml_X11_197 rfl mw_X11_change ⟨by decide, by decide⟩ (mH_0) rfl rfl (c_mChange (S := S.s_thr 0) hg.1 hu) rfl rfl (Nat.le_of_ble_eq_true rfl) (Nat.le_of_ble_eq_true rfl) (Nat.le_of_ble_eq_true rfl) ?_
      rintro _ _ _ ⟨rfl, rfl, rfl⟩
      have k1 := chd_chg hg.1 (per0 S 0)
      have hn1 : (S.s_thr 0).chg.now < 9 := by rw [k1.2.1]; omega
      refine r_aload_n (pc := 43) (i := 0) (tX11_setWeight.at 27 rfl) rfl rfl ?_
      refine r_iconst (pc := 44) (w := nI 4) (tX11_setWeight.at 28 rfl) (by decide) ?_
      refine r_iconst (pc := 45) (w := nI 3) (tX11_setWeight.at 29 rfl) (by decide) ?_
      refine r_iload_n (pc := 46) (i := 1) (tX11_setWeight.at 30 rfl) rfl rfl ?_
      first | refine r_imulN (pc := 47) (tX11_setWeight.at 31 rfl) ?_ | refine r_imulZ (pc := 47) (tX11_setWeight.at 31 rfl) ?_ | refine r_imul (pc := 47) (tX11_setWeight.at 31 rfl) ?_
      first | refine r_iaddN (pc := 48) (tX11_setWeight.at 32 rfl) ?_ | refine r_iaddZ (pc := 48) (tX11_setWeight.at 32 rfl) ?_ | refine r_iadd (pc := 48) (tX11_setWeight.at 32 rfl) ?_
      refine r_iconst (pc := 49) (w := nI 2) (tX11_setWeight.at 33 rfl) (by decide) ?_
      first | refine r_iaddN (pc := 50) (tX11_setWeight.at 34 rfl) ?_ | refine r_iaddZ (pc := 50) (tX11_setWeight.at 34 rfl) ?_ | refine r_iadd (pc := 50) (tX11_setWeight.at 34 rfl) ?_
      refine r_iload_n (pc := 51) (i := 2) (tX11_setWeight.at 35 rfl) rfl rfl ?_
      refine r_callV (M' := mX11_put) (pc := 52) (tX11_setWeight.at 36 rfl) ml_X11_200 rfl mw_X11_put ⟨by decide, by decide⟩ (mH_0) rfl rfl (c_mPut (S := (S.s_thr 0).chg) (k := 4 + 3 * i + 2) (y := w) hn1 (by omega)) rfl rfl (Nat.le_of_ble_eq_true rfl) (Nat.le_of_ble_eq_true rfl) (Nat.le_of_ble_eq_true rfl) ?_
      rintro _ _ _ ⟨rfl, rfl, rfl⟩
      refine r_iload_n (pc := 55) (i := 3) (tX11_setWeight.at 37 rfl) rfl rfl ?_
      refine r_iret (pc := 56) (tX11_setWeight.at 38 rfl) rfl (Nat.le_of_ble_eq_true rfl) (Nat.le_of_ble_eq_true rfl) ?_
      subst hPo
      exact ⟨by rw [iT, if_pos ht.symm], rfl, _, rfl, ht, fun q => absurd ht.symm q, fun _ => k1.put hg.1 (by omega)⟩
    · rw [if_neg c2] at ht
      rw [show inB y 1 9 = false from decide_eq_false c2, rgtF (show (S.s_thr 0).thr = 0 from rfl), thrN_eq (show ((S.s_thr 0).s_thr 2).thr ≠ 0 from by show (2 : Nat) ≠ 0; omega), Bool.toNat_false]
      refine r_if_neN (pc := 22) 27 (tX11_setWeight.at 12 rfl) (by decide) (by omega) (fun c => by omega) (fun _ => ?_)
      exact out _ (per.trans (per0 S 0) (per0 _ 2)) ht (by omega)
  · rw [swT, if_neg c] at ht
    rw [inB_f.mpr (by omega), rgtF (show (S.s_thr 0).thr = 0 from rfl), thrN_eq (show ((S.s_thr 0).s_thr 1).thr ≠ 0 from by show (1 : Nat) ≠ 0; omega), Bool.toNat_false]
    refine r_if_eqN (pc := 5) 25 (tX11_setWeight.at 3 rfl) (by decide) (by omega) (fun _ => ?_) (fun c => by omega)
    exact out _ (per.trans (per0 S 0) (per0 _ 1)) ht (by omega)
theorem c_mRemE {z : Int} (hg : rwG S G) (ok : okG G) (hu : S.und ≤ 8) (hz : inI z) : Cal v mX11_removeEdge 4 0 0 [.ref m, .int (zI z)] (mH v h m S) top (pCg v h m S top (iT (reT G z) (nI (G.e - 1))) (reT G z) (upN (shF S.rw (4 + 3 * z.toNat) (4 + 3 * (G.e - 1))) 1 (G.e - 1))) noX := by
  have h15 := ok.2.1
  refine Cal.ofJ (by decide +kernel) rfl (Nat.le_of_ble_eq_true rfl) fun hz0 => ?_
  refine r_ls [some (.ref m), some (.int (zI z)), none, none] rfl ?_
  generalize ht : reT G z = t at *
  generalize hPo : pCg v h m S top (iT t _) t _ = Po
  refine r_aload_n (pc := 0) (i := 0) (tX11_removeEdge.at 0 rfl) rfl rfl ?_
  refine r_iload_n (pc := 1) (i := 1) (tX11_removeEdge.at 1 rfl) rfl rfl ?_
  refine r_callV (M' := mX11_isEdge) (pc := 2) (tX11_removeEdge.at 2 rfl) ml_X11_262 rfl mw_X11_isEdge ⟨by decide, by decide⟩ (mH_0) rfl rfl (c_mIsE hg.1 hz (by rw [hg.2.2.1]; exact h15)) rfl rfl (Nat.le_of_ble_eq_true rfl) (Nat.le_of_ble_eq_true rfl) (Nat.le_of_ble_eq_true rfl) ?_
  rintro _ _ _ ⟨rfl, rfl, rfl⟩
  rw [hg.2.2.1]
  by_cases c : 0 ≤ z ∧ z < G.e
  · rw [reT, if_pos c] at ht
    rw [inB_t.mpr c, rgtT (show (S.s_thr 0).thr = 0 from rfl), thr0_eq (show (S.s_thr 0).thr = 0 from rfl), Bool.toNat_true]
    refine r_if_neN (pc := 5) 10 (tX11_removeEdge.at 3 rfl) (by decide) (by omega) (fun _ => ?_) (fun c => by omega)
    obtain ⟨i, rfl⟩ := Int.eq_ofNat_of_zero_le c.1
    rw [Int.toNat_natCast] at *
    rw [zI_nat] at *
    have k1 := chd_chg hg.1 (per0 S 0)
    have hn1 : (S.s_thr 0).chg.now < 9 := by rw [k1.2.1]; omega
    have e1 : (S.s_thr 0).chg.rw 1 = G.e := (k1.2.2.2.1 1 (by omega)).trans hg.2.2.1
    refine r_aload_n (pc := 10) (i := 0) (tX11_removeEdge.at 6 rfl) rfl rfl ?_
    refine r_callV (M' := mX11_change) (pc := 11) (tX11_removeEdge.at 7 rfl) ml_X11_197 rfl mw_X11_change ⟨by decide, by decide⟩ (mH_0) rfl rfl (c_mChange (S := S.s_thr 0) hg.1 hu) rfl rfl (Nat.le_of_ble_eq_true rfl) (Nat.le_of_ble_eq_true rfl) (Nat.le_of_ble_eq_true rfl) ?_
    rintro _ _ _ ⟨rfl, rfl, rfl⟩
    refine r_aload_n (pc := 14) (i := 0) (tX11_removeEdge.at 8 rfl) rfl rfl ?_
    refine r_iconst (pc := 15) (w := nI 1) (tX11_removeEdge.at 9 rfl) (by decide) ?_
    refine r_callV (M' := mX11_get) (pc := 16) (tX11_removeEdge.at 10 rfl) ml_X11_61 rfl mw_X11_get ⟨by decide, by decide⟩ (mH_0) rfl rfl (c_mGet (S := (S.s_thr 0).chg) (k := 1) hn1 (by omega)) rfl rfl (Nat.le_of_ble_eq_true rfl) (Nat.le_of_ble_eq_true rfl) (Nat.le_of_ble_eq_true rfl) ?_
    rintro _ _ _ ⟨rfl, rfl, rfl⟩
    rw [e1]
    refine r_iconst (pc := 19) (w := nI 1) (tX11_removeEdge.at 11 rfl) (by decide) ?_
    first | refine r_isubN (pc := 20) (tX11_removeEdge.at 12 rfl) (by omega) ?_ | refine r_isubZ (pc := 20) (tX11_removeEdge.at 12 rfl) ?_ | refine r_isub (pc := 20) (tX11_removeEdge.at 12 rfl) ?_
    refine r_istore_n (pc := 21) (i := 2) (tX11_removeEdge.at 13 rfl) rfl (by decide) ?_
    refine r_iconst (pc := 22) (w := nI 4) (tX11_removeEdge.at 14 rfl) (by decide) ?_
    refine r_iconst (pc := 23) (w := nI 3) (tX11_removeEdge.at 15 rfl) (by decide) ?_
    refine r_iload_n (pc := 24) (i := 1) (tX11_removeEdge.at 16 rfl) rfl rfl ?_
    first | refine r_imulN (pc := 25) (tX11_removeEdge.at 17 rfl) ?_ | refine r_imulZ (pc := 25) (tX11_removeEdge.at 17 rfl) ?_ | refine r_imul (pc := 25) (tX11_removeEdge.at 17 rfl) ?_
    first | refine r_iaddN (pc := 26) (tX11_removeEdge.at 18 rfl) ?_ | refine r_iaddZ (pc := 26) (tX11_removeEdge.at 18 rfl) ?_ | refine r_iadd (pc := 26) (tX11_removeEdge.at 18 rfl) ?_
    refine r_istore_n (pc := 27) (i := 3) (tX11_removeEdge.at 19 rfl) rfl (by decide) ?_
    have key : ∀ q k S2, k + q = max (4 + 3 * i) (4 + 3 * (G.e - 1)) → 4 + 3 * i ≤ k → S2.thr = 0 → chd S S2 (shF S.rw (4 + 3 * i) k) → J v mX11_removeEdge (rmOf 4 0 0) (KM v Po noX 0 0) top 0 0 (mH v h m S2) top 28 [some (.ref m), some (.int (nI i)), some (.int (nI (G.e - 1))), some (.int (nI k))] [] := by
      intro q
      induction q with
      | zero =>
        intro k S2 hk hik t2 c2
        have hn2 : S2.now < 9 := by rw [c2.2.1]; omega
        refine r_iload_n (pc := 28) (i := 3) (tX11_removeEdge.at 20 rfl) rfl rfl ?_
        refine r_iconst (pc := 29) (w := nI 4) (tX11_removeEdge.at 21 rfl) (by decide) ?_
        refine r_iconst (pc := 30) (w := nI 3) (tX11_removeEdge.at 22 rfl) (by decide) ?_
        refine r_iload_n (pc := 31) (i := 2) (tX11_removeEdge.at 23 rfl) rfl rfl ?_
        first | refine r_imulN (pc := 32) (tX11_removeEdge.at 24 rfl) ?_ | refine r_imulZ (pc := 32) (tX11_removeEdge.at 24 rfl) ?_ | refine r_imul (pc := 32) (tX11_removeEdge.at 24 rfl) ?_
        first | refine r_iaddN (pc := 33) (tX11_removeEdge.at 25 rfl) ?_ | refine r_iaddZ (pc := 33) (tX11_removeEdge.at 25 rfl) ?_ | refine r_iadd (pc := 33) (tX11_removeEdge.at 25 rfl) ?_
        refine r_icmp_geN (pc := 34) 55 (tX11_removeEdge.at 26 rfl) (by decide) (by omega) (by omega) (fun _ => ?_) (fun c => by omega)
        refine r_aload_n (pc := 55) (i := 0) (tX11_removeEdge.at 37 rfl) rfl rfl ?_
        refine r_iconst (pc := 56) (w := nI 1) (tX11_removeEdge.at 38 rfl) (by decide) ?_
        refine r_iload_n (pc := 57) (i := 2) (tX11_removeEdge.at 39 rfl) rfl rfl ?_
        refine r_callV (M' := mX11_put) (pc := 58) (tX11_removeEdge.at 40 rfl) ml_X11_200 rfl mw_X11_put ⟨by decide, by decide⟩ (mH_0) rfl rfl (c_mPut (S := S2) (k := 1) (y := G.e - 1) hn2 (by omega)) rfl rfl (Nat.le_of_ble_eq_true rfl) (Nat.le_of_ble_eq_true rfl) (Nat.le_of_ble_eq_true rfl) ?_
        rintro _ _ _ ⟨rfl, rfl, rfl⟩
        refine r_iload_n (pc := 61) (i := 2) (tX11_removeEdge.at 41 rfl) rfl rfl ?_
        refine r_iret (pc := 62) (tX11_removeEdge.at 42 rfl) rfl (Nat.le_of_ble_eq_true rfl) (Nat.le_of_ble_eq_true rfl) ?_
        subst hPo
        refine ⟨by rw [iT, if_pos ht.symm], rfl, _, rfl, by rw [← ht]; exact t2, fun q => absurd ht.symm q, fun _ => (c2.put hg.1 (by omega)).f (fun j hj => ?_)⟩
        unfold upN shF
        by_cases q1 : j = 1
        · rw [if_pos q1, if_pos q1]
        · rw [if_neg q1, if_neg q1]
          by_cases q2 : 4 + 3 * i ≤ j ∧ j < k
          · rw [if_pos q2, if_pos (by omega)]
          · rw [if_neg q2, if_neg (by omega)]
      | succ q ih =>
        intro k S2 hk hik t2 c2
        have hn2 : S2.now < 9 := by rw [c2.2.1]; omega
        have e2 : S2.rw (k + 3) = S.rw (k + 3) := by rw [c2.2.2.2.1 (k + 3) (by omega), shF, if_neg (by omega)]
        refine r_iload_n (pc := 28) (i := 3) (tX11_removeEdge.at 20 rfl) rfl rfl ?_
        refine r_iconst (pc := 29) (w := nI 4) (tX11_removeEdge.at 21 rfl) (by decide) ?_
        refine r_iconst (pc := 30) (w := nI 3) (tX11_removeEdge.at 22 rfl) (by decide) ?_
        refine r_iload_n (pc := 31) (i := 2) (tX11_removeEdge.at 23 rfl) rfl rfl ?_
        first | refine r_imulN (pc := 32) (tX11_removeEdge.at 24 rfl) ?_ | refine r_imulZ (pc := 32) (tX11_removeEdge.at 24 rfl) ?_ | refine r_imul (pc := 32) (tX11_removeEdge.at 24 rfl) ?_
        first | refine r_iaddN (pc := 33) (tX11_removeEdge.at 25 rfl) ?_ | refine r_iaddZ (pc := 33) (tX11_removeEdge.at 25 rfl) ?_ | refine r_iadd (pc := 33) (tX11_removeEdge.at 25 rfl) ?_
        refine r_icmp_geN (pc := 34) 55 (tX11_removeEdge.at 26 rfl) (by decide) (by omega) (by omega) (fun c => by omega) (fun _ => ?_)
        refine r_aload_n (pc := 37) (i := 0) (tX11_removeEdge.at 27 rfl) rfl rfl ?_
        refine r_iload_n (pc := 38) (i := 3) (tX11_removeEdge.at 28 rfl) rfl rfl ?_
        refine r_aload_n (pc := 39) (i := 0) (tX11_removeEdge.at 29 rfl) rfl rfl ?_
        refine r_iload_n (pc := 40) (i := 3) (tX11_removeEdge.at 30 rfl) rfl rfl ?_
        refine r_iconst (pc := 41) (w := nI 3) (tX11_removeEdge.at 31 rfl) (by decide) ?_
        first | refine r_iaddN (pc := 42) (tX11_removeEdge.at 32 rfl) ?_ | refine r_iaddZ (pc := 42) (tX11_removeEdge.at 32 rfl) ?_ | refine r_iadd (pc := 42) (tX11_removeEdge.at 32 rfl) ?_
        refine r_callV (M' := mX11_get) (pc := 43) (tX11_removeEdge.at 33 rfl) ml_X11_61 rfl mw_X11_get ⟨by decide, by decide⟩ (mH_0) rfl rfl (c_mGet (S := S2) (k := k + 3) hn2 (by omega)) rfl rfl (Nat.le_of_ble_eq_true rfl) (Nat.le_of_ble_eq_true rfl) (Nat.le_of_ble_eq_true rfl) ?_
        rintro _ _ _ ⟨rfl, rfl, rfl⟩
        rw [e2]
        refine r_callV (M' := mX11_put) (pc := 46) (tX11_removeEdge.at 34 rfl) ml_X11_200 rfl mw_X11_put ⟨by decide, by decide⟩ (mH_0) rfl rfl (c_mPut (S := S2) (k := k) (y := S.rw (k + 3)) hn2 (by omega)) rfl rfl (Nat.le_of_ble_eq_true rfl) (Nat.le_of_ble_eq_true rfl) (Nat.le_of_ble_eq_true rfl) ?_
        rintro _ _ _ ⟨rfl, rfl, rfl⟩
        first | refine r_iincN (pc := 49) (tX11_removeEdge.at 35 rfl) rfl (by decide) ?_ | refine r_iinc (pc := 49) (tX11_removeEdge.at 35 rfl) rfl rfl (by decide) ?_
        refine r_goto (pc := 52) 28 (tX11_removeEdge.at 36 rfl) (by decide) ?_
        refine ih (k + 1) _ (by omega) (by omega) t2 ((c2.put hg.1 (by omega)).f (fun j hj => ?_))
        unfold upN shF
        by_cases q1 : j = k
        · rw [if_pos q1, if_pos (by omega), q1]
        · rw [if_neg q1]
          by_cases q2 : 4 + 3 * i ≤ j ∧ j < k
          · rw [if_pos q2, if_pos (by omega)]
          · rw [if_neg q2, if_neg (by omega)]
    exact key _ (4 + 3 * i) (S.s_thr 0).chg (Nat.add_sub_cancel' (Nat.le_max_left _ _)) (Nat.le_refl _) rfl (k1.f (fun j hj => by rw [shF, if_neg (by omega)]))
  · rw [reT, if_neg c] at ht
    rw [inB_f.mpr (by omega), rgtF (show (S.s_thr 0).thr = 0 from rfl), thrN_eq (show ((S.s_thr 0).s_thr 1).thr ≠ 0 from by show (1 : Nat) ≠ 0; omega), Bool.toNat_false]
    refine r_if_neN (pc := 5) 10 (tX11_removeEdge.at 3 rfl) (by decide) (by omega) (fun c => by omega) (fun _ => ?_)
    refine r_iconst (pc := 8) (w := nI 0) (tX11_removeEdge.at 4 rfl) (by decide) ?_
    refine r_iret (pc := 9) (tX11_removeEdge.at 5 rfl) rfl (Nat.le_of_ble_eq_true rfl) (Nat.le_of_ble_eq_true rfl) ?_
    subst hPo
    exact ⟨by rw [iT, if_neg (by omega)]; rfl, rfl, _, rfl, ht, fun _ => per.trans (per0 S 0) (per0 _ 1), fun q => by omega⟩
theorem c_mSetA {z : Int} {p : Nat} (hr : RW S G cn cc) (hu : S.und ≤ 8) (hz : inI z) (hp : p ≤ 1) : Cal v mX11_setAbsorbing 6 0 0 [.ref m, .int (zI z), .int (nI p)] (mH v h m S) top (pCg v h m S top (iT (vtT G z) (nI (sbA G.a z.toNat p))) (vtT G z) (upN S.rw 2 (sbA G.a z.toNat p))) noX := by
  have h6 := hr.2.1.1.1
  have ha := hr.2.1.1.2.2.1
  refine Cal.ofJ (by decide +kernel) rfl (Nat.le_of_ble_eq_true rfl) fun hz0 => ?_
  refine r_ls [some (.ref m), some (.int (zI z)), some (.int (nI p))] rfl ?_
  generalize ht : vtT G z = t at *
  generalize hPo : pCg v h m S top (iT t _) t _ = Po
  refine r_aload_n (pc := 0) (i := 0) (tX11_setAbsorbing.at 0 rfl) rfl rfl ?_
  refine r_iload_n (pc := 1) (i := 1) (tX11_setAbsorbing.at 1 rfl) rfl rfl ?_
  refine r_callV (M' := mX11_starts) (pc := 2) (tX11_setAbsorbing.at 2 rfl) ml_X11_274 rfl mw_X11_starts ⟨by decide, by decide⟩ (mH_0) rfl rfl ((c_mStarts hr hz)) rfl rfl (Nat.le_of_ble_eq_true rfl) (Nat.le_of_ble_eq_true rfl) (Nat.le_of_ble_eq_true rfl) ?_
  rw [ht]
  rintro _ _ _ ⟨rfl, rfl, S1, rfl, p1, t1, l1⟩
  by_cases c : t = 0
  · rw [decide_eq_true c, Bool.toNat_true]
    refine r_if_neN (pc := 5) 10 (tX11_setAbsorbing.at 3 rfl) (by decide) (by omega) (fun _ => ?_) (fun c => by omega)
    rw [c] at ht
    obtain ⟨i, rfl, hi⟩ := vt_nat ht
    rw [Int.toNat_natCast] at *
    rw [zI_nat] at *
    have g1 := p1.rwG hr.1
    have hu1 : S1.und ≤ 8 := by rw [p1.1.2.1]; exact hu
    have k1 := chd_chg hr.1.1 p1
    have hn1 : S1.chg.now < 9 := by rw [k1.2.1]; omega
    have e1 : S1.chg.rw 2 = G.a := (k1.2.2.2.1 2 (by omega)).trans hr.1.2.2.2.1
    have fin : ∀ x, x = sbA G.a i p → J v mX11_setAbsorbing (rmOf 6 0 0) (KM v Po noX 0 0) top 0 0 (mH v h m S1.chg) top 43 [some (.ref m), some (.int (nI i)), some (.int (nI p))] [.int (nI x), .int (nI 2), .ref m] := by
      intro x hx
      have e2 : (S1.chg.s_rw 2 x).rw 2 = x := by
        rw [((k1.put hr.1.1 (k := 2) (y := x) (by omega)).2.2.2.1 2 (by omega)), upN_eq]
      refine r_callV (M' := mX11_put) (pc := 43) (tX11_setAbsorbing.at 29 rfl) ml_X11_200 rfl mw_X11_put ⟨by decide, by decide⟩ (mH_0) rfl rfl (c_mPut (S := S1.chg) (k := 2) (y := x) hn1 (by omega)) rfl rfl (Nat.le_of_ble_eq_true rfl) (Nat.le_of_ble_eq_true rfl) (Nat.le_of_ble_eq_true rfl) ?_
      rintro _ _ _ ⟨rfl, rfl, rfl⟩
      refine r_aload_n (pc := 46) (i := 0) (tX11_setAbsorbing.at 30 rfl) rfl rfl ?_
      refine r_iconst (pc := 47) (w := nI 2) (tX11_setAbsorbing.at 31 rfl) (by decide) ?_
      refine r_callV (M' := mX11_get) (pc := 48) (tX11_setAbsorbing.at 32 rfl) ml_X11_61 rfl mw_X11_get ⟨by decide, by decide⟩ (mH_0) rfl rfl (c_mGet (S := S1.chg.s_rw 2 x) (k := 2) hn1 (by omega)) rfl rfl (Nat.le_of_ble_eq_true rfl) (Nat.le_of_ble_eq_true rfl) (Nat.le_of_ble_eq_true rfl) ?_
      rintro _ _ _ ⟨rfl, rfl, rfl⟩
      rw [e2]
      refine r_iret (pc := 51) (tX11_setAbsorbing.at 33 rfl) rfl (Nat.le_of_ble_eq_true rfl) (Nat.le_of_ble_eq_true rfl) ?_
      subst hPo
      refine ⟨by rw [iT, if_pos c, hx], rfl, _, rfl, t1, fun q => absurd c q, fun _ => ?_⟩
      rw [← hx]
      exact k1.put hr.1.1 (by omega)
    refine r_aload_n (pc := 10) (i := 0) (tX11_setAbsorbing.at 6 rfl) rfl rfl ?_
    refine r_callV (M' := mX11_change) (pc := 11) (tX11_setAbsorbing.at 7 rfl) ml_X11_197 rfl mw_X11_change ⟨by decide, by decide⟩ (mH_0) rfl rfl (c_mChange (S := S1) g1.1 hu1) rfl rfl (Nat.le_of_ble_eq_true rfl) (Nat.le_of_ble_eq_true rfl) (Nat.le_of_ble_eq_true rfl) ?_
    rintro _ _ _ ⟨rfl, rfl, rfl⟩
    refine r_aload_n (pc := 14) (i := 0) (tX11_setAbsorbing.at 8 rfl) rfl rfl ?_
    refine r_iconst (pc := 15) (w := nI 2) (tX11_setAbsorbing.at 9 rfl) (by decide) ?_
    refine r_iload_n (pc := 16) (i := 2) (tX11_setAbsorbing.at 10 rfl) rfl rfl ?_
    refine r_if_eqN (pc := 17) 32 (tX11_setAbsorbing.at 11 rfl) (by decide) (by omega) (fun q => ?_) (fun q => ?_)
    · refine r_aload_n (pc := 32) (i := 0) (tX11_setAbsorbing.at 20 rfl) rfl rfl ?_
      refine r_iconst (pc := 33) (w := nI 2) (tX11_setAbsorbing.at 21 rfl) (by decide) ?_
      refine r_callV (M' := mX11_get) (pc := 34) (tX11_setAbsorbing.at 22 rfl) ml_X11_61 rfl mw_X11_get ⟨by decide, by decide⟩ (mH_0) rfl rfl (c_mGet (S := S1.chg) (k := 2) hn1 (by omega)) rfl rfl (Nat.le_of_ble_eq_true rfl) (Nat.le_of_ble_eq_true rfl) (Nat.le_of_ble_eq_true rfl) ?_
      rintro _ _ _ ⟨rfl, rfl, rfl⟩
      rw [e1]
      refine r_iconst (pc := 37) (w := nI 1) (tX11_setAbsorbing.at 23 rfl) (by decide) ?_
      refine r_iload_n (pc := 38) (i := 1) (tX11_setAbsorbing.at 24 rfl) rfl rfl ?_
      refine r_ishl (pc := 39) (tX11_setAbsorbing.at 25 rfl) ?_
      rw [bs_one i (by omega)]
      refine r_iconst (pc := 40) (w := zI (-1)) (tX11_setAbsorbing.at 26 rfl) (by decide) ?_
      refine r_ixor (pc := 41) (tX11_setAbsorbing.at 27 rfl) ?_
      refine r_iand (pc := 42) (tX11_setAbsorbing.at 28 rfl) ?_
      rw [bs_dif2 _ ha i (by omega)]
      exact fin _ (by rw [sbA, if_pos q])
    · refine r_aload_n (pc := 20) (i := 0) (tX11_setAbsorbing.at 12 rfl) rfl rfl ?_
      refine r_iconst (pc := 21) (w := nI 2) (tX11_setAbsorbing.at 13 rfl) (by decide) ?_
      refine r_callV (M' := mX11_get) (pc := 22) (tX11_setAbsorbing.at 14 rfl) ml_X11_61 rfl mw_X11_get ⟨by decide, by decide⟩ (mH_0) rfl rfl (c_mGet (S := S1.chg) (k := 2) hn1 (by omega)) rfl rfl (Nat.le_of_ble_eq_true rfl) (Nat.le_of_ble_eq_true rfl) (Nat.le_of_ble_eq_true rfl) ?_
      rintro _ _ _ ⟨rfl, rfl, rfl⟩
      rw [e1]
      refine r_iconst (pc := 25) (w := nI 1) (tX11_setAbsorbing.at 15 rfl) (by decide) ?_
      refine r_iload_n (pc := 26) (i := 1) (tX11_setAbsorbing.at 16 rfl) rfl rfl ?_
      refine r_ishl (pc := 27) (tX11_setAbsorbing.at 17 rfl) ?_
      rw [bs_one i (by omega)]
      refine r_ior (pc := 28) (tX11_setAbsorbing.at 18 rfl) ?_
      rw [bs_or _ ha _ (p2_64 (by omega))]
      refine r_goto (pc := 29) 43 (tX11_setAbsorbing.at 19 rfl) (by decide) ?_
      exact fin _ (by rw [sbA, if_neg q])
  · rw [decide_eq_false c, Bool.toNat_false]
    refine r_if_neN (pc := 5) 10 (tX11_setAbsorbing.at 3 rfl) (by decide) (by omega) (fun c => by omega) (fun _ => ?_)
    refine r_iconst (pc := 8) (w := nI 0) (tX11_setAbsorbing.at 4 rfl) (by decide) ?_
    refine r_iret (pc := 9) (tX11_setAbsorbing.at 5 rfl) rfl (Nat.le_of_ble_eq_true rfl) (Nat.le_of_ble_eq_true rfl) ?_
    subst hPo
    exact ⟨by rw [iT, if_neg c]; rfl, rfl, S1, rfl, t1, fun _ => p1, fun q => absurd q c⟩
theorem c_mAddE {z y w : Int} (hr : RW S G cn cc) (hu : S.und ≤ 8) (hz : inI z) (hy : inI y) (hw : inI w) : Cal v mX11_addEdge 6 0 0 [.ref m, .int (zI z), .int (zI y), .int (zI w)] (mH v h m S) top (pCg v h m S top (iT (aeT G z y w) (nI G.e)) (aeT G z y w) (upN (upN (upN (upN S.rw (4 + 3 * G.e) (min z.toNat y.toNat)) (4 + 3 * G.e + 1) (max z.toNat y.toNat)) (4 + 3 * G.e + 2) w.toNat) 1 (G.e + 1))) noX := by
  have h6 := hr.2.1.1.1
  have h15 := hr.2.1.1.2.1
  obtain ⟨w1, w2⟩ := hw
  refine Cal.ofJ (by decide +kernel) rfl (Nat.le_of_ble_eq_true rfl) fun hz0 => ?_
  refine r_ls [some (.ref m), some (.int (zI z)), some (.int (zI y)), some (.int (zI w)), none] rfl ?_
  generalize ht : aeT G z y w = t at *
  generalize hPo : pCg v h m S top (iT t _) t _ = Po
  have out : ∀ S', per S S' → S'.thr = t → t ≠ 0 → J v mX11_addEdge (rmOf 6 0 0) (KM v Po noX 0 0) top 0 0 (mH v h m S') top 66 [some (.ref m), some (.int (zI z)), some (.int (zI y)), some (.int (zI w)), none] [] := by
    intro S' p' t' tn
    refine r_iconst (pc := 66) (w := nI 0) (tX11_addEdge.at 37 rfl) (by decide) ?_
    refine r_iret (pc := 67) (tX11_addEdge.at 38 rfl) rfl (Nat.le_of_ble_eq_true rfl) (Nat.le_of_ble_eq_true rfl) ?_
    subst hPo
    exact ⟨by rw [iT, if_neg tn]; rfl, rfl, S', rfl, t', fun _ => p', fun q => absurd q tn⟩
  refine r_aload_n (pc := 0) (i := 0) (tX11_addEdge.at 0 rfl) rfl rfl ?_
  refine r_iload_n (pc := 1) (i := 1) (tX11_addEdge.at 1 rfl) rfl rfl ?_
  refine r_iload_n (pc := 2) (i := 2) (tX11_addEdge.at 2 rfl) rfl rfl ?_
  refine r_callV (M' := mX11_starts2) (pc := 3) (tX11_addEdge.at 3 rfl) ml_X11_277 rfl mw_X11_starts2 ⟨by decide, by decide⟩ (mH_0) rfl rfl ((c_mStarts2 hr hz hy)) rfl rfl (Nat.le_of_ble_eq_true rfl) (Nat.le_of_ble_eq_true rfl) (Nat.le_of_ble_eq_true rfl) ?_
  rintro _ _ _ ⟨rfl, rfl, S1, rfl, p1, t1, l1⟩
  by_cases cz : vtT G z = 0
  · rw [if_pos cz] at t1 ⊢
    by_cases cy : vtT G y = 0
    · rw [cy] at t1 ⊢
      rw [decide_eq_true rfl, Bool.toNat_true]
      refine r_if_eqN (pc := 6) 66 (tX11_addEdge.at 4 rfl) (by decide) (by omega) (fun c => by omega) (fun _ => ?_)
      rw [aeT, if_pos cz, if_pos cy] at ht
      obtain ⟨i, rfl, hi⟩ := vt_nat cz
      obtain ⟨j, rfl, hj⟩ := vt_nat cy
      rw [Int.toNat_natCast, Int.toNat_natCast] at *
      rw [zI_nat, zI_nat] at *
      have g1 := p1.rwG hr.1
      have chk : ∀ b, b = decide (i ≠ j ∧ (1 ≤ w ∧ w ≤ 9)) → J v mX11_addEdge (rmOf 6 0 0) (KM v Po noX 0 0) top 0 0 (mH v h m S1) top 32 [some (.ref m), some (.int (nI i)), some (.int (nI j)), some (.int (zI w)), none] [.int (nI (Bool.toNat b)), .ref m] := by
        intro b hb
        refine r_iconst (pc := 32) (w := nI 2) (tX11_addEdge.at 18 rfl) (by decide) ?_
        refine r_callV (M' := mX11_right) (pc := 33) (tX11_addEdge.at 19 rfl) ml_X11_190 rfl mw_X11_right ⟨by decide, by decide⟩ (mH_0) rfl rfl (c_mRight (S := S1) (by omega) (by omega)) rfl rfl (Nat.le_of_ble_eq_true rfl) (Nat.le_of_ble_eq_true rfl) (Nat.le_of_ble_eq_true rfl) ?_
        rintro _ _ _ ⟨rfl, rfl, rfl⟩
        cases b with
        | false =>
          have c := of_decide_eq_false hb.symm
          rw [if_neg (fun q => c ⟨fun z => q.1 (by rw [z]), q.2⟩)] at ht
          rw [rgtF t1, thrN_eq (show (S1.s_thr 2).thr ≠ 0 from by show (2 : Nat) ≠ 0; omega), Bool.toNat_false]
          refine r_if_eqN (pc := 36) 66 (tX11_addEdge.at 20 rfl) (by decide) (by omega) (fun _ => ?_) (fun c => by omega)
          exact out _ (per.trans p1 (per0 S1 2)) ht (by omega)
        | true =>
          have c := of_decide_eq_true hb.symm
          rw [if_pos ⟨fun z => c.1 (by omega), c.2⟩] at ht
          obtain ⟨c1, c2, c3⟩ := c
          have hw9 := hr.2.1.w9 (i * 6 + j) (by omega)
          rw [rgtT t1, thr0_eq t1, Bool.toNat_true]
          refine r_if_eqN (pc := 36) 66 (tX11_addEdge.at 20 rfl) (by decide) (by omega) (fun c => by omega) (fun _ => ?_)
          refine r_aload_n (pc := 39) (i := 0) (tX11_addEdge.at 21 rfl) rfl rfl ?_
          refine r_aload_n (pc := 40) (i := 0) (tX11_addEdge.at 22 rfl) rfl rfl ?_
          refine r_get (pc := 41) (tX11_addEdge.at 23 rfl) gf_X11_23 (mH_0) rfl ?_
          refine r_bipush (pc := 44) (w := nI 6) (tX11_addEdge.at 24 rfl) (by decide) ?_
          refine r_iload_n (pc := 46) (i := 1) (tX11_addEdge.at 25 rfl) rfl rfl ?_
          first | refine r_imulN (pc := 47) (tX11_addEdge.at 26 rfl) ?_ | refine r_imulZ (pc := 47) (tX11_addEdge.at 26 rfl) ?_ | refine r_imul (pc := 47) (tX11_addEdge.at 26 rfl) ?_
          refine r_iload_n (pc := 48) (i := 2) (tX11_addEdge.at 27 rfl) rfl rfl ?_
          first | refine r_iaddN (pc := 49) (tX11_addEdge.at 28 rfl) ?_ | refine r_iaddZ (pc := 49) (tX11_addEdge.at 28 rfl) ?_ | refine r_iadd (pc := 49) (tX11_addEdge.at 28 rfl) ?_
          refine r_iald (pc := 50) (tX11_addEdge.at 29 rfl) (mH_wts) (6 * i + j) (rfl) (by omega) (Nat.le_of_ble_eq_true rfl) ?_
          refine r_eq rfl (st2 := [.int (nI (G.W (i * 6 + j))), .ref m]) (by rw [← (l1.1 i j (by omega) (by omega)).1]; rfl) ?_
          by_cases q : G.W (i * 6 + j) = 0
          · rw [if_pos q] at ht
            refine r_if_neN (pc := 51) 58 (tX11_addEdge.at 30 rfl) (by decide) (by omega) (fun c => by omega) (fun _ => ?_)
            refine r_iconst (pc := 54) (w := nI (Bool.toNat true)) (tX11_addEdge.at 31 rfl) (by decide) ?_
            refine r_goto (pc := 55) 59 (tX11_addEdge.at 32 rfl) (by decide) ?_
            refine r_iconst (pc := 59) (w := nI 3) (tX11_addEdge.at 34 rfl) (by decide) ?_
            refine r_callV (M' := mX11_right) (pc := 60) (tX11_addEdge.at 35 rfl) ml_X11_190 rfl mw_X11_right ⟨by decide, by decide⟩ (mH_0) rfl rfl (c_mRight (S := S1) (by omega) (by omega)) rfl rfl (Nat.le_of_ble_eq_true rfl) (Nat.le_of_ble_eq_true rfl) (Nat.le_of_ble_eq_true rfl) ?_
            rintro _ _ _ ⟨rfl, rfl, rfl⟩
            rw [rgtT t1, thr0_eq t1, Bool.toNat_true]
            refine r_if_neN (pc := 63) 68 (tX11_addEdge.at 36 rfl) (by decide) (by omega) (fun _ => ?_) (fun c => by omega)
            obtain ⟨w, rfl⟩ := Int.eq_ofNat_of_zero_le (show 0 ≤ w by omega)
            rw [Int.toNat_natCast] at hPo
            rw [zI_nat] at *
            have hu1 : S1.und ≤ 8 := by rw [p1.1.2.1]; exact hu
            have hn := hr.1.1
            have k1 := chd_chg hn p1
            have hn1 : S1.chg.now < 9 := by rw [k1.2.1]; omega
            have e1 : S1.chg.rw 1 = G.e := (k1.2.2.2.1 1 (by omega)).trans hr.1.2.2.1
            have k2 := k1.put hn (k := 4 + 3 * G.e) (y := min i j) (by omega)
            have k3 := k2.put hn (k := 4 + 3 * G.e + 1) (y := max i j) (by omega)
            have k4 := k3.put hn (k := 4 + 3 * G.e + 2) (y := w) (by omega)
            have k5 := k4.put hn (k := 1) (y := G.e + 1) (by omega)
            refine r_aload_n (pc := 68) (i := 0) (tX11_addEdge.at 39 rfl) rfl rfl ?_
            refine r_callV (M' := mX11_change) (pc := 69) (tX11_addEdge.at 40 rfl) ml_X11_197 rfl mw_X11_change ⟨by decide, by decide⟩ (mH_0) rfl rfl (c_mChange (S := S1) g1.1 hu1) rfl rfl (Nat.le_of_ble_eq_true rfl) (Nat.le_of_ble_eq_true rfl) (Nat.le_of_ble_eq_true rfl) ?_
            rintro _ _ _ ⟨rfl, rfl, rfl⟩
            refine r_aload_n (pc := 72) (i := 0) (tX11_addEdge.at 41 rfl) rfl rfl ?_
            refine r_iconst (pc := 73) (w := nI 1) (tX11_addEdge.at 42 rfl) (by decide) ?_
            refine r_callV (M' := mX11_get) (pc := 74) (tX11_addEdge.at 43 rfl) ml_X11_61 rfl mw_X11_get ⟨by decide, by decide⟩ (mH_0) rfl rfl (c_mGet (S := S1.chg) (k := 1) hn1 (by omega)) rfl rfl (Nat.le_of_ble_eq_true rfl) (Nat.le_of_ble_eq_true rfl) (Nat.le_of_ble_eq_true rfl) ?_
            rintro _ _ _ ⟨rfl, rfl, rfl⟩
            rw [e1]
            refine r_istore (pc := 77) (i := 4) (tX11_addEdge.at 44 rfl) (by decide) ?_
            refine r_aload_n (pc := 79) (i := 0) (tX11_addEdge.at 45 rfl) rfl rfl ?_
            refine r_iconst (pc := 80) (w := nI 4) (tX11_addEdge.at 46 rfl) (by decide) ?_
            refine r_iconst (pc := 81) (w := nI 3) (tX11_addEdge.at 47 rfl) (by decide) ?_
            refine r_iload (pc := 82) (i := 4) (tX11_addEdge.at 48 rfl) rfl ?_
            first | refine r_imulN (pc := 84) (tX11_addEdge.at 49 rfl) ?_ | refine r_imulZ (pc := 84) (tX11_addEdge.at 49 rfl) ?_ | refine r_imul (pc := 84) (tX11_addEdge.at 49 rfl) ?_
            first | refine r_iaddN (pc := 85) (tX11_addEdge.at 50 rfl) ?_ | refine r_iaddZ (pc := 85) (tX11_addEdge.at 50 rfl) ?_ | refine r_iadd (pc := 85) (tX11_addEdge.at 50 rfl) ?_
            refine r_iload_n (pc := 86) (i := 1) (tX11_addEdge.at 51 rfl) rfl rfl ?_
            refine r_iload_n (pc := 87) (i := 2) (tX11_addEdge.at 52 rfl) rfl rfl ?_
            first | refine r_mminN (pc := 88) (tX11_addEdge.at 53 rfl) ml_X11_108 mw_min_s mw_math mw_min_c (Nat.le_of_ble_eq_true rfl) (Nat.le_of_ble_eq_true rfl) (Nat.le_of_ble_eq_true rfl) (Nat.le_of_ble_eq_true rfl) (by omega) (by omega) ?_ | refine r_mminZ (pc := 88) (tX11_addEdge.at 53 rfl) ml_X11_108 mw_min_s mw_math mw_min_c (Nat.le_of_ble_eq_true rfl) (Nat.le_of_ble_eq_true rfl) (Nat.le_of_ble_eq_true rfl) (Nat.le_of_ble_eq_true rfl) ⟨by omega, by omega⟩ ⟨by omega, by omega⟩ ?_ | refine r_mmin (pc := 88) (tX11_addEdge.at 53 rfl) ml_X11_108 mw_min_s mw_math mw_min_c (Nat.le_of_ble_eq_true rfl) (Nat.le_of_ble_eq_true rfl) (Nat.le_of_ble_eq_true rfl) (Nat.le_of_ble_eq_true rfl) ?_
            refine r_callV (M' := mX11_put) (pc := 91) (tX11_addEdge.at 54 rfl) ml_X11_200 rfl mw_X11_put ⟨by decide, by decide⟩ (mH_0) rfl rfl (c_mPut (S := S1.chg) (k := 4 + 3 * G.e) (y := min i j) hn1 (by omega)) rfl rfl (Nat.le_of_ble_eq_true rfl) (Nat.le_of_ble_eq_true rfl) (Nat.le_of_ble_eq_true rfl) ?_
            rintro _ _ _ ⟨rfl, rfl, rfl⟩
            refine r_aload_n (pc := 94) (i := 0) (tX11_addEdge.at 55 rfl) rfl rfl ?_
            refine r_iconst (pc := 95) (w := nI 4) (tX11_addEdge.at 56 rfl) (by decide) ?_
            refine r_iconst (pc := 96) (w := nI 3) (tX11_addEdge.at 57 rfl) (by decide) ?_
            refine r_iload (pc := 97) (i := 4) (tX11_addEdge.at 58 rfl) rfl ?_
            first | refine r_imulN (pc := 99) (tX11_addEdge.at 59 rfl) ?_ | refine r_imulZ (pc := 99) (tX11_addEdge.at 59 rfl) ?_ | refine r_imul (pc := 99) (tX11_addEdge.at 59 rfl) ?_
            first | refine r_iaddN (pc := 100) (tX11_addEdge.at 60 rfl) ?_ | refine r_iaddZ (pc := 100) (tX11_addEdge.at 60 rfl) ?_ | refine r_iadd (pc := 100) (tX11_addEdge.at 60 rfl) ?_
            refine r_iconst (pc := 101) (w := nI 1) (tX11_addEdge.at 61 rfl) (by decide) ?_
            first | refine r_iaddN (pc := 102) (tX11_addEdge.at 62 rfl) ?_ | refine r_iaddZ (pc := 102) (tX11_addEdge.at 62 rfl) ?_ | refine r_iadd (pc := 102) (tX11_addEdge.at 62 rfl) ?_
            refine r_iload_n (pc := 103) (i := 1) (tX11_addEdge.at 63 rfl) rfl rfl ?_
            refine r_iload_n (pc := 104) (i := 2) (tX11_addEdge.at 64 rfl) rfl rfl ?_
            first | refine r_mmaxN (pc := 105) (tX11_addEdge.at 65 rfl) ml_X11_150 mw_max_s mw_math mw_max_c (Nat.le_of_ble_eq_true rfl) (Nat.le_of_ble_eq_true rfl) (Nat.le_of_ble_eq_true rfl) (Nat.le_of_ble_eq_true rfl) (by omega) (by omega) ?_ | refine r_mmaxZ (pc := 105) (tX11_addEdge.at 65 rfl) ml_X11_150 mw_max_s mw_math mw_max_c (Nat.le_of_ble_eq_true rfl) (Nat.le_of_ble_eq_true rfl) (Nat.le_of_ble_eq_true rfl) (Nat.le_of_ble_eq_true rfl) ⟨by omega, by omega⟩ ⟨by omega, by omega⟩ ?_ | refine r_mmax (pc := 105) (tX11_addEdge.at 65 rfl) ml_X11_150 mw_max_s mw_math mw_max_c (Nat.le_of_ble_eq_true rfl) (Nat.le_of_ble_eq_true rfl) (Nat.le_of_ble_eq_true rfl) (Nat.le_of_ble_eq_true rfl) ?_
            refine r_callV (M' := mX11_put) (pc := 108) (tX11_addEdge.at 66 rfl) ml_X11_200 rfl mw_X11_put ⟨by decide, by decide⟩ (mH_0) rfl rfl (c_mPut (S := S1.chg.s_rw (4 + 3 * G.e) (min i j)) (k := 4 + 3 * G.e + 1) (y := max i j) hn1 (by omega)) rfl rfl (Nat.le_of_ble_eq_true rfl) (Nat.le_of_ble_eq_true rfl) (Nat.le_of_ble_eq_true rfl) ?_
            rintro _ _ _ ⟨rfl, rfl, rfl⟩
            refine r_aload_n (pc := 111) (i := 0) (tX11_addEdge.at 67 rfl) rfl rfl ?_
            refine r_iconst (pc := 112) (w := nI 4) (tX11_addEdge.at 68 rfl) (by decide) ?_
            refine r_iconst (pc := 113) (w := nI 3) (tX11_addEdge.at 69 rfl) (by decide) ?_
            refine r_iload (pc := 114) (i := 4) (tX11_addEdge.at 70 rfl) rfl ?_
            first | refine r_imulN (pc := 116) (tX11_addEdge.at 71 rfl) ?_ | refine r_imulZ (pc := 116) (tX11_addEdge.at 71 rfl) ?_ | refine r_imul (pc := 116) (tX11_addEdge.at 71 rfl) ?_
            first | refine r_iaddN (pc := 117) (tX11_addEdge.at 72 rfl) ?_ | refine r_iaddZ (pc := 117) (tX11_addEdge.at 72 rfl) ?_ | refine r_iadd (pc := 117) (tX11_addEdge.at 72 rfl) ?_
            refine r_iconst (pc := 118) (w := nI 2) (tX11_addEdge.at 73 rfl) (by decide) ?_
            first | refine r_iaddN (pc := 119) (tX11_addEdge.at 74 rfl) ?_ | refine r_iaddZ (pc := 119) (tX11_addEdge.at 74 rfl) ?_ | refine r_iadd (pc := 119) (tX11_addEdge.at 74 rfl) ?_
            refine r_iload_n (pc := 120) (i := 3) (tX11_addEdge.at 75 rfl) rfl rfl ?_
            refine r_callV (M' := mX11_put) (pc := 121) (tX11_addEdge.at 76 rfl) ml_X11_200 rfl mw_X11_put ⟨by decide, by decide⟩ (mH_0) rfl rfl (c_mPut (S := (S1.chg.s_rw (4 + 3 * G.e) (min i j)).s_rw (4 + 3 * G.e + 1) (max i j)) (k := 4 + 3 * G.e + 2) (y := w) hn1 (by omega)) rfl rfl (Nat.le_of_ble_eq_true rfl) (Nat.le_of_ble_eq_true rfl) (Nat.le_of_ble_eq_true rfl) ?_
            rintro _ _ _ ⟨rfl, rfl, rfl⟩
            refine r_aload_n (pc := 124) (i := 0) (tX11_addEdge.at 77 rfl) rfl rfl ?_
            refine r_iconst (pc := 125) (w := nI 1) (tX11_addEdge.at 78 rfl) (by decide) ?_
            refine r_iload (pc := 126) (i := 4) (tX11_addEdge.at 79 rfl) rfl ?_
            refine r_iconst (pc := 128) (w := nI 1) (tX11_addEdge.at 80 rfl) (by decide) ?_
            first | refine r_iaddN (pc := 129) (tX11_addEdge.at 81 rfl) ?_ | refine r_iaddZ (pc := 129) (tX11_addEdge.at 81 rfl) ?_ | refine r_iadd (pc := 129) (tX11_addEdge.at 81 rfl) ?_
            refine r_callV (M' := mX11_put) (pc := 130) (tX11_addEdge.at 82 rfl) ml_X11_200 rfl mw_X11_put ⟨by decide, by decide⟩ (mH_0) rfl rfl (c_mPut (S := ((S1.chg.s_rw (4 + 3 * G.e) (min i j)).s_rw (4 + 3 * G.e + 1) (max i j)).s_rw (4 + 3 * G.e + 2) w) (k := 1) (y := G.e + 1) hn1 (by omega)) rfl rfl (Nat.le_of_ble_eq_true rfl) (Nat.le_of_ble_eq_true rfl) (Nat.le_of_ble_eq_true rfl) ?_
            rintro _ _ _ ⟨rfl, rfl, rfl⟩
            refine r_iload (pc := 133) (i := 4) (tX11_addEdge.at 83 rfl) rfl ?_
            refine r_iret (pc := 135) (tX11_addEdge.at 84 rfl) rfl (Nat.le_of_ble_eq_true rfl) (Nat.le_of_ble_eq_true rfl) ?_
            subst hPo
            exact ⟨by rw [iT, if_pos ht.symm], rfl, _, rfl, by rw [← ht]; exact t1, fun q => absurd ht.symm q, fun _ => k5⟩
          · rw [if_neg q] at ht
            refine r_if_neN (pc := 51) 58 (tX11_addEdge.at 30 rfl) (by decide) (by omega) (fun _ => ?_) (fun c => by omega)
            refine r_iconst (pc := 58) (w := nI (Bool.toNat false)) (tX11_addEdge.at 33 rfl) (by decide) ?_
            refine r_iconst (pc := 59) (w := nI 3) (tX11_addEdge.at 34 rfl) (by decide) ?_
            refine r_callV (M' := mX11_right) (pc := 60) (tX11_addEdge.at 35 rfl) ml_X11_190 rfl mw_X11_right ⟨by decide, by decide⟩ (mH_0) rfl rfl (c_mRight (S := S1) (by omega) (by omega)) rfl rfl (Nat.le_of_ble_eq_true rfl) (Nat.le_of_ble_eq_true rfl) (Nat.le_of_ble_eq_true rfl) ?_
            rintro _ _ _ ⟨rfl, rfl, rfl⟩
            rw [rgtF t1, thrN_eq (show (S1.s_thr 3).thr ≠ 0 from by show (3 : Nat) ≠ 0; omega), Bool.toNat_false]
            refine r_if_neN (pc := 63) 68 (tX11_addEdge.at 36 rfl) (by decide) (by omega) (fun c => by omega) (fun _ => ?_)
            exact out _ (per.trans p1 (per0 S1 3)) ht (by omega)
      refine r_aload_n (pc := 9) (i := 0) (tX11_addEdge.at 5 rfl) rfl rfl ?_
      refine r_iload_n (pc := 10) (i := 1) (tX11_addEdge.at 6 rfl) rfl rfl ?_
      refine r_iload_n (pc := 11) (i := 2) (tX11_addEdge.at 7 rfl) rfl rfl ?_
      refine r_icmp_eqN (pc := 12) 31 (tX11_addEdge.at 8 rfl) (by decide) (by omega) (by omega) (fun c1 => ?_) (fun c1 => ?_)
      · refine r_iconst (pc := 31) (w := nI (Bool.toNat false)) (tX11_addEdge.at 17 rfl) (by decide) ?_
        exact chk false (decide_eq_false (fun q => q.1 c1)).symm
      · refine r_iload_n (pc := 15) (i := 3) (tX11_addEdge.at 9 rfl) rfl rfl ?_
        refine r_i2lZ (pc := 16) (tX11_addEdge.at 10 rfl) ⟨by omega, by omega⟩ ?_
        refine r_lconst (pc := 17) (w := lI 1) (tX11_addEdge.at 11 rfl) (by decide) ?_
        refine r_ldc2 (pc := 18) (tX11_addEdge.at 12 rfl) lcL_X11_340 ?_
        refine r_callS (M' := mX11_isIn) (pc := 21) (tX11_addEdge.at 13 rfl) ml_X11_114 rfl mw_X11_isIn ⟨by decide, by decide⟩ (c_mIsIn ⟨by omega, by omega⟩ ⟨by omega, by omega⟩ ⟨by omega, by omega⟩) rfl rfl (Nat.le_of_ble_eq_true rfl) (Nat.le_of_ble_eq_true rfl) (Nat.le_of_ble_eq_true rfl) ?_
        rintro _ _ _ ⟨rfl, rfl, rfl⟩
        by_cases c2 : 1 ≤ w ∧ w ≤ 9
        · rw [show inB w 1 9 = true from decide_eq_true c2, Bool.toNat_true]
          refine r_if_eqN (pc := 24) 31 (tX11_addEdge.at 14 rfl) (by decide) (by omega) (fun c => by omega) (fun _ => ?_)
          refine r_iconst (pc := 27) (w := nI (Bool.toNat true)) (tX11_addEdge.at 15 rfl) (by decide) ?_
          refine r_goto (pc := 28) 32 (tX11_addEdge.at 16 rfl) (by decide) ?_
          exact chk true (decide_eq_true ⟨c1, c2⟩).symm
        · rw [show inB w 1 9 = false from decide_eq_false c2, Bool.toNat_false]
          refine r_if_eqN (pc := 24) 31 (tX11_addEdge.at 14 rfl) (by decide) (by omega) (fun _ => ?_) (fun c => by omega)
          refine r_iconst (pc := 31) (w := nI (Bool.toNat false)) (tX11_addEdge.at 17 rfl) (by decide) ?_
          exact chk false (decide_eq_false (fun q => c2 q.2)).symm
    · have cy1 : vtT G y = 1 := by unfold vtT at *; split <;> simp_all
      rw [cy1] at t1 ⊢
      rw [aeT, if_pos cz, if_neg cy] at ht
      rw [decide_eq_false (by omega), Bool.toNat_false]
      refine r_if_eqN (pc := 6) 66 (tX11_addEdge.at 4 rfl) (by decide) (by omega) (fun _ => ?_) (fun c => by omega)
      exact out _ p1 (by rw [t1, ht]) (by omega)
  · rw [if_neg cz] at t1 ⊢
    rw [aeT, if_neg cz] at ht
    rw [decide_eq_false (by omega), Bool.toNat_false]
    refine r_if_eqN (pc := 6) 66 (tX11_addEdge.at 4 rfl) (by decide) (by omega) (fun _ => ?_) (fun c => by omega)
    exact out _ p1 (by rw [t1, ht]) (by omega)
theorem c_mUndo (hn : S.now < 9) (hu : S.und ≤ 8) : Cal v mX11_undo 1 0 0 [.ref m] (mH v h m S) top (fun r h' top' => r = some (.int (if S.und = 0 then zI (-1) else nI (S.und - 1))) ∧ top = top' ∧ h' = mH v h m (if S.und = 0 then S.s_thr 0 else ((S.s_thr 0).s_und (S.und - 1)).s_now ((S.now + 8) % 9))) noX := by
  refine Cal.ofJ (by decide +kernel) rfl (Nat.le_of_ble_eq_true rfl) fun hz0 => ?_
  refine r_ls [some (.ref m)] rfl ?_
  generalize hPo : (fun (r : Option Value) (h' : Hp) (top' : Nat) => r = some (.int (if S.und = 0 then zI (-1) else nI (S.und - 1))) ∧ top = top' ∧ h' = mH v h m (if S.und = 0 then S.s_thr 0 else ((S.s_thr 0).s_und (S.und - 1)).s_now ((S.now + 8) % 9))) = Po
  refine r_aload_n (pc := 0) (i := 0) (tX11_undo.at 0 rfl) rfl rfl ?_
  refine r_iconst (pc := 1) (w := nI 0) (tX11_undo.at 1 rfl) (by decide) ?_
  refine r_put (pc := 2) (tX11_undo.at 2 rfl) pf_X11_55 (mH_0) (Nat.le_of_ble_eq_true rfl) (rfl) (rfl) ?_
  refine r_eq (h2 := mH v h m (S.s_thr 0)) (mH_p0 (S' := S.s_thr 0) rfl) rfl ?_
  refine r_aload_n (pc := 5) (i := 0) (tX11_undo.at 3 rfl) rfl rfl ?_
  refine r_get (pc := 6) (tX11_undo.at 4 rfl) gf_X11_65 (mH_0) rfl ?_
  refine r_eq rfl (st2 := [.int (nI S.und)]) rfl ?_
  by_cases c : S.und = 0
  · refine r_if_neN (pc := 9) 14 (tX11_undo.at 5 rfl) (by decide) (by omega) (fun c => by omega) (fun _ => ?_)
    refine r_iconst (pc := 12) (w := zI (-1)) (tX11_undo.at 6 rfl) (by decide) ?_
    refine r_iret (pc := 13) (tX11_undo.at 7 rfl) rfl (Nat.le_of_ble_eq_true rfl) (Nat.le_of_ble_eq_true rfl) ?_
    subst hPo
    refine ⟨by rw [if_pos c], rfl, ?_⟩
    rw [if_pos c]
  · refine r_if_neN (pc := 9) 14 (tX11_undo.at 5 rfl) (by decide) (by omega) (fun _ => ?_) (fun c => by omega)
    refine r_aload_n (pc := 14) (i := 0) (tX11_undo.at 8 rfl) rfl rfl ?_
    refine r_dup (pc := 15) (tX11_undo.at 9 rfl) rfl ?_
    refine r_get (pc := 16) (tX11_undo.at 10 rfl) gf_X11_65 (mH_0) rfl ?_
    refine r_eq rfl (st2 := [.int (nI S.und), .ref m]) rfl ?_
    refine r_iconst (pc := 19) (w := nI 1) (tX11_undo.at 11 rfl) (by decide) ?_
    first | refine r_isubN (pc := 20) (tX11_undo.at 12 rfl) (by omega) ?_ | refine r_isubZ (pc := 20) (tX11_undo.at 12 rfl) ?_ | refine r_isub (pc := 20) (tX11_undo.at 12 rfl) ?_
    refine r_put (pc := 21) (tX11_undo.at 13 rfl) pf_X11_65 (mH_0) (Nat.le_of_ble_eq_true rfl) (rfl) (rfl) ?_
    refine r_eq (h2 := mH v h m ((S.s_thr 0).s_und (S.und - 1))) (mH_p0 (S' := (S.s_thr 0).s_und (S.und - 1)) rfl) rfl ?_
    refine r_aload_n (pc := 24) (i := 0) (tX11_undo.at 14 rfl) rfl rfl ?_
    refine r_aload_n (pc := 25) (i := 0) (tX11_undo.at 15 rfl) rfl rfl ?_
    refine r_get (pc := 26) (tX11_undo.at 16 rfl) gf_X11_58 (mH_0) rfl ?_
    refine r_eq rfl (st2 := [.int (nI S.now), .ref m]) rfl ?_
    refine r_bipush (pc := 29) (w := nI 9) (tX11_undo.at 17 rfl) (by decide) ?_
    refine r_iaddN (pc := 31) (tX11_undo.at 18 rfl) ?_
    refine r_iconst (pc := 32) (w := nI 1) (tX11_undo.at 19 rfl) (by decide) ?_
    refine r_isubN (pc := 33) (tX11_undo.at 20 rfl) (by omega) ?_
    refine r_bipush (pc := 34) (w := nI 9) (tX11_undo.at 21 rfl) (by decide) ?_
    refine r_irem (pc := 36) (tX11_undo.at 22 rfl) (by decide) ?_
    rw [irem_nI (by omega) (by omega) (by omega), show S.now + 9 - 1 = S.now + 8 by omega]
    refine r_put (pc := 37) (tX11_undo.at 23 rfl) pf_X11_58 (mH_0) (Nat.le_of_ble_eq_true rfl) (rfl) (rfl) ?_
    refine r_eq (h2 := mH v h m (((S.s_thr 0).s_und (S.und - 1)).s_now ((S.now + 8) % 9))) (mH_p0 (S' := ((S.s_thr 0).s_und (S.und - 1)).s_now ((S.now + 8) % 9)) rfl) rfl ?_
    refine r_aload_n (pc := 40) (i := 0) (tX11_undo.at 24 rfl) rfl rfl ?_
    refine r_get (pc := 41) (tX11_undo.at 25 rfl) gf_X11_65 (mH_0) rfl ?_
    refine r_eq rfl (st2 := [.int (nI (S.und - 1))]) rfl ?_
    refine r_iret (pc := 44) (tX11_undo.at 26 rfl) rfl (Nat.le_of_ble_eq_true rfl) (Nat.le_of_ble_eq_true rfl) ?_
    subst hPo
    refine ⟨by rw [if_neg c], rfl, ?_⟩
    rw [if_neg c]
end

