/-! ===== the reference: load, constructor ===== -/
def MS.ldX (S : MS) (len : Nat) : MS := (((((S.s_thr 0).s_siz len).s_byt 0).s_eat (-1))).txs
def ldT (S : MS) (z : Int) : Nat := if 0 ≤ z ∧ z ≤ S.byt then 0 else 1
theorem ldX_ok {S : MS} {len : Nat} (hb : S.byt ≤ 600) (hl : len ≤ S.byt) (ht : ∀ k, S.txt k < 256) : okB ((((S.s_thr 0).s_siz len).s_byt 0).s_eat (-1)) := ⟨Nat.le_trans hl hb, ht⟩
/-- what load leaves -/
def pLo (v : Ev) (h : Hp) (m : Nat) (S : MS) (top : Nat) (z : Int) : Option Value → Hp → Nat → Prop := fun r h' top' => (∃ y, r = some (.int y) ∧ (ldT S z = 0 → y = zI (if (S.ldX z.toNat).err = 0 then ((S.ldX z.toNat).red 1 : Nat) else (S.ldX z.toNat).err))) ∧ top = top' ∧ ∃ S', h' = mH v h m S' ∧ S'.thr = ldT S z ∧ (ldT S z ≠ 0 → per S S') ∧ (ldT S z = 0 → (S.ldX z.toNat).err ≠ 0 → per ((S.ldX z.toNat).s_eat ((S.ldX z.toNat).plc : Nat)) S') ∧ (ldT S z = 0 → (S.ldX z.toNat).err = 0 → chd (S.ldX z.toNat) S' (nbF (S.ldX z.toNat).red))
def M0 : MS := (((0, 0, 0), (0, -1), (0, 0, 0, 0), (0, 0, 0), (0, 0), 0, 0), (fun _ => 0, fun _ => 0, fun _ => 0), (fun _ => 0, fun _ => 0, fun _ => 0), (fun _ => 0, fun _ => 0, fun _ => 0), (fun _ => 0, fun _ => 0), fun _ => 0, fun _ => 0)
section
variable {v : Ev} {h : Hp} {top m : Nat} {S : MS}
theorem c_mLoad {z : Int} (hn : S.now < 9) (hu : S.und ≤ 8) (hb : S.byt ≤ 600) (ht : ∀ k, S.txt k < 256) (hz : inI z) (hX : ldT S z = 0 → (S.ldX z.toNat).err = 0 → (S.ldX z.toNat).red 0 ≤ 6 ∧ (S.ldX z.toNat).red 1 ≤ 1000 ∧ ∀ k, k < (S.ldX z.toNat).red 0 → (S.ldX z.toNat).red (49 + k) ≤ 6) : Cal v mX11_load 25 0 0 [.ref m, .int (zI z)] (mH v h m S) top (pLo v h m S top z) noX := by
  obtain ⟨z1, z2⟩ := hz
  refine Cal.ofJ (by decide +kernel) rfl (Nat.le_of_ble_eq_true rfl) fun hz0 => ?_
  refine r_ls [some (.ref m), some (.int (zI z)), none] rfl ?_
  generalize hPo : pLo v h m S top z = Po
  refine r_aload_n (pc := 0) (i := 0) (tX11_load.at 0 rfl) rfl rfl ?_
  refine r_iconst (pc := 1) (w := nI 0) (tX11_load.at 1 rfl) (by decide) ?_
  refine r_put (pc := 2) (tX11_load.at 2 rfl) pf_X11_55 (mH_0) (Nat.le_of_ble_eq_true rfl) (rfl) (rfl) ?_
  refine r_eq (h2 := mH v h m (S.s_thr 0)) (mH_p0 (S' := S.s_thr 0) rfl) rfl ?_
  refine r_aload_n (pc := 5) (i := 0) (tX11_load.at 3 rfl) rfl rfl ?_
  refine r_iload_n (pc := 6) (i := 1) (tX11_load.at 4 rfl) rfl rfl ?_
  refine r_i2lZ (pc := 7) (tX11_load.at 5 rfl) ⟨by omega, by omega⟩ ?_
  refine r_lconst (pc := 8) (w := lI 0) (tX11_load.at 6 rfl) (by decide) ?_
  refine r_aload_n (pc := 9) (i := 0) (tX11_load.at 7 rfl) rfl rfl ?_
  refine r_get (pc := 10) (tX11_load.at 8 rfl) gf_X11_68 (mH_0) rfl ?_
  refine r_eq rfl (st2 := [.int (nI S.byt), .long (lI 0), .long (lI z), .ref m]) rfl ?_
  first | refine r_i2lN (pc := 13) (tX11_load.at 9 rfl) (by omega) ?_ | refine r_i2lZ (pc := 13) (tX11_load.at 9 rfl) ⟨by omega, by omega⟩ ?_ | refine r_i2l (pc := 13) (tX11_load.at 9 rfl) ?_
  refine r_callS (M' := mX11_isIn) (pc := 14) (tX11_load.at 10 rfl) ml_X11_114 rfl mw_X11_isIn ⟨by decide, by decide⟩ (c_mIsIn ⟨by omega, by omega⟩ ⟨by omega, by omega⟩ ⟨by omega, by omega⟩) rfl rfl (Nat.le_of_ble_eq_true rfl) (Nat.le_of_ble_eq_true rfl) (Nat.le_of_ble_eq_true rfl) ?_
  rintro _ _ _ ⟨rfl, rfl, rfl⟩
  refine r_iconst (pc := 17) (w := nI 1) (tX11_load.at 11 rfl) (by decide) ?_
  refine r_callV (M' := mX11_right) (pc := 18) (tX11_load.at 12 rfl) ml_X11_190 rfl mw_X11_right ⟨by decide, by decide⟩ (mH_0) rfl rfl (c_mRight (S := S.s_thr 0) (show (0 : Nat) < 65536 by omega) (by omega)) rfl rfl (Nat.le_of_ble_eq_true rfl) (Nat.le_of_ble_eq_true rfl) (Nat.le_of_ble_eq_true rfl) ?_
  rintro _ _ _ ⟨rfl, rfl, rfl⟩
  by_cases c : 0 ≤ z ∧ z ≤ S.byt
  · have et : ldT S z = 0 := if_pos c
    rw [show inB z 0 (S.byt : Nat) = true from decide_eq_true c, rgtT (show (S.s_thr 0).thr = 0 from rfl), thr0_eq (show (S.s_thr 0).thr = 0 from rfl), Bool.toNat_true]
    refine r_if_neN (pc := 21) 26 (tX11_load.at 13 rfl) (by decide) (by omega) (fun _ => ?_) (fun c => by omega)
    obtain ⟨len, rfl⟩ := Int.eq_ofNat_of_zero_le c.1
    have hX := hX et
    unfold pLo at hPo
    rw [et] at hPo
    rw [Int.toNat_natCast] at *
    rw [zI_nat] at *
    have okb := ldX_ok (S := S) (len := len) hb (by omega) ht
    obtain ⟨p1, p2, p3⟩ := txs_per okb
    have p1 : per2 ((((S.s_thr 0).s_siz len).s_byt 0).s_eat (-1)) (S.ldX len) := p1
    have p2 : okP (S.ldX len) := p2
    have p3 : inI (S.ldX len).err := p3
    refine r_aload_n (pc := 26) (i := 0) (tX11_load.at 16 rfl) rfl rfl ?_
    refine r_iload_n (pc := 27) (i := 1) (tX11_load.at 17 rfl) rfl rfl ?_
    refine r_put (pc := 28) (tX11_load.at 18 rfl) pf_X11_80 (mH_0) (Nat.le_of_ble_eq_true rfl) (rfl) (rfl) ?_
    refine r_eq (h2 := mH v h m ((S.s_thr 0).s_siz len)) (mH_p0 (S' := (S.s_thr 0).s_siz len) rfl) rfl ?_
    refine r_aload_n (pc := 31) (i := 0) (tX11_load.at 19 rfl) rfl rfl ?_
    refine r_iconst (pc := 32) (w := nI 0) (tX11_load.at 20 rfl) (by decide) ?_
    refine r_put (pc := 33) (tX11_load.at 21 rfl) pf_X11_68 (mH_0) (Nat.le_of_ble_eq_true rfl) (rfl) (rfl) ?_
    refine r_eq (h2 := mH v h m (((S.s_thr 0).s_siz len).s_byt 0)) (mH_p0 (S' := ((S.s_thr 0).s_siz len).s_byt 0) rfl) rfl ?_
    refine r_aload_n (pc := 36) (i := 0) (tX11_load.at 22 rfl) rfl rfl ?_
    refine r_iconst (pc := 37) (w := zI (-1)) (tX11_load.at 23 rfl) (by decide) ?_
    refine r_put (pc := 38) (tX11_load.at 24 rfl) pf_X11_19 (mH_0) (Nat.le_of_ble_eq_true rfl) (rfl) (rfl) ?_
    refine r_eq (h2 := mH v h m ((((S.s_thr 0).s_siz len).s_byt 0).s_eat (-1))) (mH_p0 (S' := (((S.s_thr 0).s_siz len).s_byt 0).s_eat (-1)) rfl) rfl ?_
    refine r_aload_n (pc := 41) (i := 0) (tX11_load.at 25 rfl) rfl rfl ?_
    refine r_callV (M' := mX11_texts) (pc := 42) (tX11_load.at 26 rfl) ml_X11_194 rfl mw_X11_texts ⟨by decide, by decide⟩ (mH_0) rfl rfl (c_mTexts okb) rfl rfl (Nat.le_of_ble_eq_true rfl) (Nat.le_of_ble_eq_true rfl) (Nat.le_of_ble_eq_true rfl) ?_
    rintro _ _ _ ⟨rfl, rfl, rfl⟩
    refine r_eq (h2 := mH v h m (S.ldX len)) rfl rfl ?_
    generalize S.ldX len = X at *
    refine r_aload_n (pc := 45) (i := 0) (tX11_load.at 27 rfl) rfl rfl ?_
    refine r_get (pc := 46) (tX11_load.at 28 rfl) gf_X11_71 (mH_0) rfl ?_
    refine r_eq rfl (st2 := [.int (zI X.err)]) rfl ?_
    refine r_err0 (pc := 49) 65 (tX11_load.at 29 rfl) (by decide) p3 (fun c0 => ?_) (fun c0 => ?_)
    · obtain ⟨x1, x2, x3⟩ := hX c0
      have hnX : X.now < 9 := by rw [p1.1.1]; exact hn
      have huX : X.und ≤ 8 := by rw [p1.1.2.1]; exact hu
      have k1 := chd_chg hnX (per.refl X)
      refine r_aload_n (pc := 65) (i := 0) (tX11_load.at 37 rfl) rfl rfl ?_
      refine r_callV (M' := mX11_change) (pc := 66) (tX11_load.at 38 rfl) ml_X11_197 rfl mw_X11_change ⟨by decide, by decide⟩ (mH_0) rfl rfl (c_mChange hnX huX) rfl rfl (Nat.le_of_ble_eq_true rfl) (Nat.le_of_ble_eq_true rfl) (Nat.le_of_ble_eq_true rfl) ?_
      rintro _ _ _ ⟨rfl, rfl, rfl⟩
      refine r_iconst (pc := 69) (w := nI 0) (tX11_load.at 39 rfl) (by decide) ?_
      refine r_istore_n (pc := 70) (i := 2) (tX11_load.at 40 rfl) rfl (by decide) ?_
      have key : ∀ q k Y, k + q = 1240 → Y.thr = X.thr → Y.red = X.red → chd X Y (fun j => if j < k then X.red j else X.rw j) → J v mX11_load (rmOf 25 0 0) (KM v Po noX 0 0) top 0 0 (mH v h m Y) top 71 [some (.ref m), some (.int (nI len)), some (.int (nI k))] [] := by
        intro q
        induction q with
        | zero =>
          intro k Y hk tY rY cY
          have hk : k = 1240 := by omega
          subst hk
          have hnY : Y.now < 9 := by rw [cY.2.1]; omega
          have cR : chd X Y X.red := cY.f (fun j hj => if_pos hj)
          obtain ⟨cN, -⟩ := c_mNum2 (v := v) (h := h) (top := top) (m := m) hnX cR x1 x3
          have c5 := cR.nmb hnX x1
          have e1 : Y.nmb.rw 1 = X.red 1 := by
            rw [c5.2.2.2.1 1 (by omega)]
            unfold nbF
            rw [if_neg (by omega)]
          refine r_iload_n (pc := 71) (i := 2) (tX11_load.at 41 rfl) rfl rfl ?_
          refine r_sipush (pc := 72) (w := nI 1240) (tX11_load.at 42 rfl) (by decide) ?_
          refine r_icmp_geN (pc := 75) 95 (tX11_load.at 43 rfl) (by decide) (by omega) (by omega) (fun _ => ?_) (fun c => by omega)
          refine r_aload_n (pc := 95) (i := 0) (tX11_load.at 53 rfl) rfl rfl ?_
          refine r_callV (M' := mX11_numbers) (pc := 96) (tX11_load.at 54 rfl) ml_X11_203 rfl mw_X11_numbers ⟨by decide, by decide⟩ (mH_0) rfl rfl (cN) rfl rfl (Nat.le_of_ble_eq_true rfl) (Nat.le_of_ble_eq_true rfl) (Nat.le_of_ble_eq_true rfl) ?_
          rintro _ _ _ ⟨rfl, rfl, rfl⟩
          refine r_aload_n (pc := 99) (i := 0) (tX11_load.at 55 rfl) rfl rfl ?_
          refine r_iconst (pc := 100) (w := nI 1) (tX11_load.at 56 rfl) (by decide) ?_
          refine r_callV (M' := mX11_get) (pc := 101) (tX11_load.at 57 rfl) ml_X11_61 rfl mw_X11_get ⟨by decide, by decide⟩ (mH_0) rfl rfl (c_mGet (S := Y.nmb) (k := 1) hnY (by omega)) rfl rfl (Nat.le_of_ble_eq_true rfl) (Nat.le_of_ble_eq_true rfl) (Nat.le_of_ble_eq_true rfl) ?_
          rintro _ _ _ ⟨rfl, rfl, rfl⟩
          rw [e1]
          refine r_iret (pc := 104) (tX11_load.at 58 rfl) rfl (Nat.le_of_ble_eq_true rfl) (Nat.le_of_ble_eq_true rfl) ?_
          subst hPo
          refine ⟨⟨_, rfl, fun _ => by rw [if_pos c0, zI_nat]⟩, rfl, _, rfl, tY.trans p1.1.2.2.2.2.2, fun q => absurd rfl q, fun _ q => absurd c0 q, fun _ _ => c5⟩
        | succ q ih =>
          intro k Y hk tY rY cY
          have hnY : Y.now < 9 := by rw [cY.2.1]; omega
          refine r_iload_n (pc := 71) (i := 2) (tX11_load.at 41 rfl) rfl rfl ?_
          refine r_sipush (pc := 72) (w := nI 1240) (tX11_load.at 42 rfl) (by decide) ?_
          refine r_icmp_geN (pc := 75) 95 (tX11_load.at 43 rfl) (by decide) (by omega) (by omega) (fun c => by omega) (fun _ => ?_)
          refine r_aload_n (pc := 78) (i := 0) (tX11_load.at 44 rfl) rfl rfl ?_
          refine r_iload_n (pc := 79) (i := 2) (tX11_load.at 45 rfl) rfl rfl ?_
          refine r_aload_n (pc := 80) (i := 0) (tX11_load.at 46 rfl) rfl rfl ?_
          refine r_get (pc := 81) (tX11_load.at 47 rfl) gf_X11_13 (mH_0) rfl ?_
          refine r_iload_n (pc := 84) (i := 2) (tX11_load.at 48 rfl) rfl rfl ?_
          refine r_iald (pc := 85) (tX11_load.at 49 rfl) (mH_red) (k) (rfl) (by omega) (Nat.le_of_ble_eq_true rfl) ?_
          refine r_eq rfl (st2 := [.int (nI (X.red k)), .int (nI k), .ref m]) (by rw [← rY]; rfl) ?_
          refine r_callV (M' := mX11_put) (pc := 86) (tX11_load.at 50 rfl) ml_X11_200 rfl mw_X11_put ⟨by decide, by decide⟩ (mH_0) rfl rfl (c_mPut (S := Y) (k := k) (y := X.red k) hnY (by omega)) rfl rfl (Nat.le_of_ble_eq_true rfl) (Nat.le_of_ble_eq_true rfl) (Nat.le_of_ble_eq_true rfl) ?_
          rintro _ _ _ ⟨rfl, rfl, rfl⟩
          first | refine r_iincN (pc := 89) (tX11_load.at 51 rfl) rfl (by decide) ?_ | refine r_iinc (pc := 89) (tX11_load.at 51 rfl) rfl rfl (by decide) ?_
          refine r_goto (pc := 92) 71 (tX11_load.at 52 rfl) (by decide) ?_
          refine ih (k + 1) _ (by omega) tY rY ((cY.put hnX (by omega)).f (fun j hj => ?_))
          unfold upN
          by_cases q1 : j = k
          · rw [if_pos q1, if_pos (by omega), q1]
          · rw [if_neg q1]
            by_cases q2 : j < k
            · rw [if_pos (show j < k + 1 by omega)]
              exact if_pos q2
            · rw [if_neg (show ¬ j < k + 1 by omega)]
              exact if_neg q2
      exact key 1240 0 X.chg (by omega) rfl rfl (k1.f (fun j hj => (if_neg (by omega)).symm))
    · refine r_aload_n (pc := 52) (i := 0) (tX11_load.at 30 rfl) rfl rfl ?_
      refine r_aload_n (pc := 53) (i := 0) (tX11_load.at 31 rfl) rfl rfl ?_
      refine r_get (pc := 54) (tX11_load.at 32 rfl) gf_X11_74 (mH_0) rfl ?_
      refine r_eq rfl (st2 := [.int (zI (X.plc : Nat)), .ref m]) (by rw [zI_nat]; rfl) ?_
      refine r_put (pc := 57) (tX11_load.at 33 rfl) pf_X11_19 (mH_0) (Nat.le_of_ble_eq_true rfl) (rfl) (rfl) ?_
      refine r_eq (h2 := mH v h m (X.s_eat (X.plc : Nat))) (mH_p0 (S' := X.s_eat (X.plc : Nat)) rfl) rfl ?_
      refine r_aload_n (pc := 60) (i := 0) (tX11_load.at 34 rfl) rfl rfl ?_
      refine r_get (pc := 61) (tX11_load.at 35 rfl) gf_X11_71 (mH_0) rfl ?_
      refine r_eq rfl (st2 := [.int (zI X.err)]) rfl ?_
      refine r_iret (pc := 64) (tX11_load.at 36 rfl) rfl (Nat.le_of_ble_eq_true rfl) (Nat.le_of_ble_eq_true rfl) ?_
      subst hPo
      exact ⟨⟨_, rfl, fun _ => by rw [if_neg c0]⟩, rfl, _, rfl, p1.1.2.2.2.2.2, fun q => absurd rfl q, fun _ _ => per.refl _, fun _ q => absurd q c0⟩
  · have et : ldT S z = 1 := if_neg c
    rw [show inB z 0 (S.byt : Nat) = false from decide_eq_false c, rgtF (show (S.s_thr 0).thr = 0 from rfl), thrN_eq (show ((S.s_thr 0).s_thr 1).thr ≠ 0 from by show (1 : Nat) ≠ 0; omega), Bool.toNat_false]
    refine r_if_neN (pc := 21) 26 (tX11_load.at 13 rfl) (by decide) (by omega) (fun c => by omega) (fun _ => ?_)
    refine r_iconst (pc := 24) (w := nI 0) (tX11_load.at 14 rfl) (by decide) ?_
    refine r_iret (pc := 25) (tX11_load.at 15 rfl) rfl (Nat.le_of_ble_eq_true rfl) (Nat.le_of_ble_eq_true rfl) ?_
    subst hPo
    unfold pLo
    rw [et]
    exact ⟨⟨_, rfl, fun q => by omega⟩, rfl, _, rfl, rfl, fun _ => per.trans (per0 S 0) (per0 _ 1), fun q => by omega, fun q => by omega⟩
theorem c_mInit (hq : h m = some (ob 11 [.int 0, .null, .null, .int 0, .int 0, .null, .int 0, .int 0, .int 0, .int 0, .int 0, .int 0, .int 0, .int 0, .int 0, .null, .null, .null, .null, .long 0, .long 0, .null, .null, .null, .int 0, .null, .int 0, .null, .null])) : Cal v mX11_init 1 13 14380 [.ref m] h (m + 1) (pT (mH v h m M0) (m + 14)) noX := by
  refine Cal.ofJ (by decide +kernel) rfl (Nat.le_of_ble_eq_true rfl) fun hz0 => ?_
  refine r_ls [some (.ref m)] rfl ?_
  refine r_aload_n (pc := 0) (i := 0) (tX11_init.at 0 rfl) rfl rfl ?_
  refine r_objInit (pc := 1) (tX11_init.at 1 rfl) ml_X11_1 oi_inst oi_code (Nat.le_of_ble_eq_true rfl) (Nat.le_of_ble_eq_true rfl) ?_
  refine r_aload_n (pc := 4) (i := 0) (tX11_init.at 2 rfl) rfl rfl ?_
  refine r_sipush (pc := 5) (w := nI 11160) (tX11_init.at 3 rfl) (by decide) ?_
  refine r_newaI (pc := 8) (11160) (tX11_init.at 4 rfl) (rfl) (Nat.le_of_ble_eq_true rfl) ac_int (Nat.le_of_ble_eq_true rfl) (Nat.le_of_ble_eq_true rfl) (fun fr8 => ?_)
  refine r_putF (pc := 10) (tX11_init.at 5 rfl) pff_X11_7 rfl ((hp_ne _ _ (by omega)).trans hq) (Nat.le_of_ble_eq_true rfl) rfl rfl ?_
  refine r_aload_n (pc := 13) (i := 0) (tX11_init.at 6 rfl) rfl rfl ?_
  refine r_sipush (pc := 14) (w := nI 1240) (tX11_init.at 7 rfl) (by decide) ?_
  refine r_newaI (pc := 17) (1240) (tX11_init.at 8 rfl) (rfl) (Nat.le_of_ble_eq_true rfl) ac_int (Nat.le_of_ble_eq_true rfl) (Nat.le_of_ble_eq_true rfl) (fun fr17 => ?_)
  refine r_putF (pc := 19) (tX11_init.at 9 rfl) pff_X11_13 rfl ((hp_ne _ _ (by omega)).trans (hp_eq _ _ _)) (Nat.le_of_ble_eq_true rfl) rfl rfl ?_
  refine r_aload_n (pc := 22) (i := 0) (tX11_init.at 10 rfl) rfl rfl ?_
  refine r_sipush (pc := 23) (w := nI 600) (tX11_init.at 11 rfl) (by decide) ?_
  refine r_newaI (pc := 26) (600) (tX11_init.at 12 rfl) (rfl) (Nat.le_of_ble_eq_true rfl) ac_int (Nat.le_of_ble_eq_true rfl) (Nat.le_of_ble_eq_true rfl) (fun fr26 => ?_)
  refine r_putF (pc := 28) (tX11_init.at 13 rfl) pff_X11_16 rfl ((hp_ne _ _ (by omega)).trans (hp_eq _ _ _)) (Nat.le_of_ble_eq_true rfl) rfl rfl ?_
  refine r_aload_n (pc := 31) (i := 0) (tX11_init.at 14 rfl) rfl rfl ?_
  refine r_iconst (pc := 32) (w := zI (-1)) (tX11_init.at 15 rfl) (by decide) ?_
  refine r_put (pc := 33) (tX11_init.at 16 rfl) pf_X11_19 (hp_eq _ _ _) (Nat.le_of_ble_eq_true rfl) (rfl) (rfl) ?_
  refine r_aload_n (pc := 36) (i := 0) (tX11_init.at 17 rfl) rfl rfl ?_
  refine r_bipush (pc := 37) (w := nI 36) (tX11_init.at 18 rfl) (by decide) ?_
  refine r_newaI (pc := 39) (36) (tX11_init.at 19 rfl) (rfl) (Nat.le_of_ble_eq_true rfl) ac_int (Nat.le_of_ble_eq_true rfl) (Nat.le_of_ble_eq_true rfl) (fun fr39 => ?_)
  refine r_putF (pc := 41) (tX11_init.at 20 rfl) pff_X11_23 rfl ((hp_ne _ _ (by omega)).trans (hp_eq _ _ _)) (Nat.le_of_ble_eq_true rfl) rfl rfl ?_
  refine r_aload_n (pc := 44) (i := 0) (tX11_init.at 21 rfl) rfl rfl ?_
  refine r_bipush (pc := 45) (w := nI 36) (tX11_init.at 22 rfl) (by decide) ?_
  refine r_newaI (pc := 47) (36) (tX11_init.at 23 rfl) (rfl) (Nat.le_of_ble_eq_true rfl) ac_int (Nat.le_of_ble_eq_true rfl) (Nat.le_of_ble_eq_true rfl) (fun fr47 => ?_)
  refine r_putF (pc := 49) (tX11_init.at 24 rfl) pff_X11_26 rfl ((hp_ne _ _ (by omega)).trans (hp_eq _ _ _)) (Nat.le_of_ble_eq_true rfl) rfl rfl ?_
  refine r_aload_n (pc := 52) (i := 0) (tX11_init.at 25 rfl) rfl rfl ?_
  refine r_bipush (pc := 53) (w := nI 6) (tX11_init.at 26 rfl) (by decide) ?_
  refine r_newaI (pc := 55) (6) (tX11_init.at 27 rfl) (rfl) (Nat.le_of_ble_eq_true rfl) ac_int (Nat.le_of_ble_eq_true rfl) (Nat.le_of_ble_eq_true rfl) (fun fr55 => ?_)
  refine r_putF (pc := 57) (tX11_init.at 28 rfl) pff_X11_29 rfl ((hp_ne _ _ (by omega)).trans (hp_eq _ _ _)) (Nat.le_of_ble_eq_true rfl) rfl rfl ?_
  refine r_aload_n (pc := 60) (i := 0) (tX11_init.at 29 rfl) rfl rfl ?_
  refine r_sipush (pc := 61) (w := nI 1200) (tX11_init.at 30 rfl) (by decide) ?_
  refine r_newaJ (pc := 64) (1200) (tX11_init.at 31 rfl) (rfl) (Nat.le_of_ble_eq_true rfl) ac_long (Nat.le_of_ble_eq_true rfl) (Nat.le_of_ble_eq_true rfl) (fun fr64 => ?_)
  refine r_putF (pc := 66) (tX11_init.at 32 rfl) pff_X11_32 rfl ((hp_ne _ _ (by omega)).trans (hp_eq _ _ _)) (Nat.le_of_ble_eq_true rfl) rfl rfl ?_
  refine r_aload_n (pc := 69) (i := 0) (tX11_init.at 33 rfl) rfl rfl ?_
  refine r_bipush (pc := 70) (w := nI 42) (tX11_init.at 34 rfl) (by decide) ?_
  refine r_newaJ (pc := 72) (42) (tX11_init.at 35 rfl) (rfl) (Nat.le_of_ble_eq_true rfl) ac_long (Nat.le_of_ble_eq_true rfl) (Nat.le_of_ble_eq_true rfl) (fun fr72 => ?_)
  refine r_putF (pc := 74) (tX11_init.at 36 rfl) pff_X11_36 rfl ((hp_ne _ _ (by omega)).trans (hp_eq _ _ _)) (Nat.le_of_ble_eq_true rfl) rfl rfl ?_
  refine r_aload_n (pc := 77) (i := 0) (tX11_init.at 37 rfl) rfl rfl ?_
  refine r_bipush (pc := 78) (w := nI 36) (tX11_init.at 38 rfl) (by decide) ?_
  refine r_newaJ (pc := 80) (36) (tX11_init.at 39 rfl) (rfl) (Nat.le_of_ble_eq_true rfl) ac_long (Nat.le_of_ble_eq_true rfl) (Nat.le_of_ble_eq_true rfl) (fun fr80 => ?_)
  refine r_putF (pc := 82) (tX11_init.at 40 rfl) pff_X11_39 rfl ((hp_ne _ _ (by omega)).trans (hp_eq _ _ _)) (Nat.le_of_ble_eq_true rfl) rfl rfl ?_
  refine r_aload_n (pc := 85) (i := 0) (tX11_init.at 41 rfl) rfl rfl ?_
  refine r_bipush (pc := 86) (w := nI 6) (tX11_init.at 42 rfl) (by decide) ?_
  refine r_newaI (pc := 88) (6) (tX11_init.at 43 rfl) (rfl) (Nat.le_of_ble_eq_true rfl) ac_int (Nat.le_of_ble_eq_true rfl) (Nat.le_of_ble_eq_true rfl) (fun fr88 => ?_)
  refine r_putF (pc := 90) (tX11_init.at 44 rfl) pff_X11_42 rfl ((hp_ne _ _ (by omega)).trans (hp_eq _ _ _)) (Nat.le_of_ble_eq_true rfl) rfl rfl ?_
  refine r_aload_n (pc := 93) (i := 0) (tX11_init.at 45 rfl) rfl rfl ?_
  refine r_bipush (pc := 94) (w := nI 6) (tX11_init.at 46 rfl) (by decide) ?_
  refine r_newaI (pc := 96) (6) (tX11_init.at 47 rfl) (rfl) (Nat.le_of_ble_eq_true rfl) ac_int (Nat.le_of_ble_eq_true rfl) (Nat.le_of_ble_eq_true rfl) (fun fr96 => ?_)
  refine r_putF (pc := 98) (tX11_init.at 48 rfl) pff_X11_45 rfl ((hp_ne _ _ (by omega)).trans (hp_eq _ _ _)) (Nat.le_of_ble_eq_true rfl) rfl rfl ?_
  refine r_aload_n (pc := 101) (i := 0) (tX11_init.at 49 rfl) rfl rfl ?_
  refine r_bipush (pc := 102) (w := nI 6) (tX11_init.at 50 rfl) (by decide) ?_
  refine r_newaF (pc := 104) (6) (tX11_init.at 51 rfl) (rfl) (Nat.le_of_ble_eq_true rfl) ac_float (Nat.le_of_ble_eq_true rfl) (Nat.le_of_ble_eq_true rfl) (fun fr104 => ?_)
  refine r_putF (pc := 106) (tX11_init.at 52 rfl) pff_X11_48 rfl ((hp_ne _ _ (by omega)).trans (hp_eq _ _ _)) (Nat.le_of_ble_eq_true rfl) rfl rfl ?_
  refine r_aload_n (pc := 109) (i := 0) (tX11_init.at 53 rfl) rfl rfl ?_
  refine r_bipush (pc := 110) (w := nI 6) (tX11_init.at 54 rfl) (by decide) ?_
  refine r_newaF (pc := 112) (6) (tX11_init.at 55 rfl) (rfl) (Nat.le_of_ble_eq_true rfl) ac_float (Nat.le_of_ble_eq_true rfl) (Nat.le_of_ble_eq_true rfl) (fun fr112 => ?_)
  refine r_putF (pc := 114) (tX11_init.at 56 rfl) pff_X11_52 rfl ((hp_ne _ _ (by omega)).trans (hp_eq _ _ _)) (Nat.le_of_ble_eq_true rfl) rfl rfl ?_
  refine r_vret (pc := 117) (tX11_init.at 57 rfl) rfl (Nat.le_of_ble_eq_true rfl) (Nat.le_of_ble_eq_true rfl) ?_
  refine ⟨rfl, (mH_ext (fun k hk => ?_) (fun a ha => ?_)).symm, rfl⟩
  · rcases (show k = 0 ∨ k = 1 ∨ k = 2 ∨ k = 3 ∨ k = 4 ∨ k = 5 ∨ k = 6 ∨ k = 7 ∨ k = 8 ∨ k = 9 ∨ k = 10 ∨ k = 11 ∨ k = 12 ∨ k = 13 by omega) with rfl | rfl | rfl | rfl | rfl | rfl | rfl | rfl | rfl | rfl | rfl | rfl | rfl | rfl
    all_goals (simp [hp] ; rfl)
  · repeat rw [hp_ne _ _ (by omega)]
end

