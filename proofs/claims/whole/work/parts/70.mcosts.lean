/-! ===== the reference: the cost expression ===== -/
def fcS (sm : MS → MS) (S : MS) : MS :=
  if S.err = 0 then
    (if S.sv = 40 then
      (if S.nst = 4 then S.see.fls (-5) S.kp else ((sm ((S.see.s_nst (S.nst + 1)).s_nxt (S.kp + 1))).wan 41).s_nst S.nst)
    else if S.dgB = true then (S.see.rdS 0 9999).cod 0 (S.see.rdR 0 9999)
    else if S.see.tkB 30 = true then (S.see.tkS 30).cod 5 0
    else if S.see.tkB 31 = true then (S.see.tkS 31).cod 5 1
    else if S.see.tkB 32 = true then (S.see.tkS 32).cod 5 2
    else S.see.fls (-2) S.kp)
  else S
def tmL (c1 c2 k1 k2 : Nat) (fc : MS → MS) : Nat → MS → MS
  | 0, S => S
  | f + 1, S => if S.err = 0 then (if S.sv = c1 ∨ S.sv = c2 then tmL c1 c2 k1 k2 fc f ((fc (S.s_nxt (S.kp + 1))).cod (if S.sv = c1 then k1 else k2) 0) else S.see) else S
def tmS (fc : MS → MS) (S : MS) : MS := tmL 42 47 3 4 fc 601 (fc S)
def smS (tm : MS → MS) (S : MS) : MS := tmL 43 45 1 2 tm 601 (tm S)
/-- a sum inside of 4 - n parentheses -/
def lvS : Nat → MS → MS
  | 0 => smS (tmS (fcS id))
  | n + 1 => smS (tmS (fcS (lvS n)))
def Pq (S : MS) : Prop := okP S ∧ inI S.err ∧ (∀ k, k < 1240 → S.red k ≤ 10000) ∧ S.red 3 + 10 ≤ S.nxt
def gdc (c : Nat) (S S' : MS) : Prop := adv S S' ∧ S'.nst = S.nst ∧ S'.hco = S.hco ∧ S'.red 3 + S.nxt + c ≤ S.red 3 + S'.nxt ∧ (∀ k, k < 56 → k ≠ 3 → S'.red k = S.red k) ∧ ∀ k, k < 1240 → S'.red k ≤ 10000
theorem gdc.P {c : Nat} {S S' : MS} (g : gdc c S S') (p : Pq S) : Pq S' := ⟨g.1.ok p.1, g.1.2.2.2 p.2.1, g.2.2.2.2.2, by have := g.2.2.2.1; have := p.2.2.2; omega⟩
theorem gdc.trans {c d : Nat} {A B C : MS} (g : gdc c A B) (k : gdc d B C) : gdc (c + d) A C := ⟨g.1.trans k.1, k.2.1.trans g.2.1, k.2.2.1.trans g.2.2.1, by have := g.2.2.2.1; have := k.2.2.2.1; omega, fun i hi h3 => (k.2.2.2.2.1 i hi h3).trans (g.2.2.2.2.1 i hi h3), k.2.2.2.2.2⟩
theorem gdc.le {c d : Nat} {A B : MS} (g : gdc c A B) (h : d ≤ c) : gdc d A B := ⟨g.1, g.2.1, g.2.2.1, by have := g.2.2.2.1; omega, g.2.2.2.2⟩
theorem gdc.refl {S : MS} (p : Pq S) : gdc 0 S S := ⟨adv.refl p.1, rfl, rfl, by omega, fun _ _ _ => rfl, p.2.2.1⟩
/-- what leaves the row alone -/
theorem gdc_of {c : Nat} {S S' : MS} (p : Pq S) (a : adv S S') (hn : S'.nst = S.nst) (hh : S'.hco = S.hco) (hr : S'.red = S.red) (hx : S.nxt + c ≤ S'.nxt) : gdc c S S' := ⟨a, hn, hh, by rw [hr]; omega, fun _ _ _ => by rw [hr], by rw [hr]; exact p.2.2.1⟩
theorem gdc_see {S : MS} (p : Pq S) : gdc 0 S S.see := gdc_of p (adv_see p.1) rfl rfl rfl (by have := p.1.kp.1; exact this)
theorem gdc_fls {S : MS} {c : Int} {a : Nat} (p : Pq S) (hc : inI c) : gdc 0 S (S.fls c a) := gdc_of p (fls_adv p.1 hc) fls_red.2.2 fls_red.2.1 fls_red.1 (fls_adv (a := a) p.1 hc).2.1
theorem gdc_wan {S : MS} {c : Nat} (p : Pq S) : gdc 0 S (S.wan c) := gdc_of p (wan_adv p.1) wan_red.2.2 wan_red.2.1 wan_red.1 (wan_adv p.1).2.1
theorem dgB_pos {S : MS} (ok : okP S) (h : S.dgB = true) : 0 < S.rdK := by
  have h := of_decide_eq_true h
  unfold MS.sv at h
  split at h
  · next q => exact dgN_pos q (decide_eq_true (by omega))
  · omega
theorem gdc_rd {S : MS} {a b : Int} (p : Pq S) (h0 : S.err = 0) (h : S.dgB = true) : gdc 1 S (S.rdS a b) := by
  have h1 := dgB_pos p.1 h
  have h2 := p.1.kp
  refine gdc_of p (rdS_adv p.1) rdS_red.2.2 rdS_red.2.1 rdS_red.1 ?_
  unfold MS.rdS
  rw [if_pos h0, if_pos h]
  split
  · show S.nxt + 1 ≤ S.kp + S.rdK
    omega
  · unfold MS.fls
    rw [if_pos (show ((S.s_beg S.kp).s_nxt (S.kp + S.rdK)).err = 0 from h0)]
    show S.nxt + 1 ≤ S.kp + S.rdK
    omega
theorem gdc_tk {S : MS} {i : Nat} (p : Pq S) (h : S.tkB i = true) (hl : 1 ≤ (stText i).length) : gdc 1 S (S.tkS i) := by
  have h2 := p.1.kp
  unfold MS.tkB at h
  rw [Bool.and_eq_true, decide_eq_true_iff] at h
  refine gdc_of p (tkS_adv p.1) tkS_red.2.2.1 tkS_red.2.1 tkS_red.1 ?_
  unfold MS.tkS
  rw [if_pos h.1, if_pos h.2]
  have := (of_decide_eq_true h.2).1
  show S.nxt + 1 ≤ S.ke
  omega
theorem gdc_cod {S X : MS} {k w : Nat} (p : Pq S) (g : gdc 1 S X) (hk : k ≤ 10000) (hw : w ≤ 10000) : gdc 0 S (X.cod k w) ∧ 56 + 2 * X.red 3 + 1 < 1240 := by
  have pX := g.P p
  have h1 := g.2.2.2.1
  have h2 := p.2.2.2
  have h3 := pX.1.1
  have h4 := pX.1.2.1
  refine ⟨?_, by omega⟩
  unfold MS.cod
  split
  · refine ⟨g.1.trans ⟨⟨⟨rfl, rfl, rfl, rfl, rfl, rfl⟩, rfl, rfl⟩, Nat.le_refl _, h4, fun z => z⟩, g.2.1, g.2.2.1, ?_, fun i hi h => ?_, fun i hi => ?_⟩
    · show upN (upN (upN X.red (56 + 2 * X.red 3) k) (56 + 2 * X.red 3 + 1) w) 3 (X.red 3 + 1) 3 + S.nxt + 0 ≤ S.red 3 + X.nxt
      rw [upN_eq]
      omega
    · show upN (upN (upN X.red (56 + 2 * X.red 3) k) (56 + 2 * X.red 3 + 1) w) 3 (X.red 3 + 1) i = S.red i
      rw [upN_ne _ _ h, upN_ne _ _ (by omega), upN_ne _ _ (by omega)]
      exact g.2.2.2.2.1 i hi h
    · show upN (upN (upN X.red (56 + 2 * X.red 3) k) (56 + 2 * X.red 3 + 1) w) 3 (X.red 3 + 1) i ≤ 10000
      unfold upN
      split
      · omega
      · split
        · exact hw
        · split
          · exact hk
          · exact pX.2.2.1 i hi
  · exact g.le (by omega)
theorem len30 : 1 ≤ (stText 30).length ∧ 1 ≤ (stText 31).length ∧ 1 ≤ (stText 32).length := by decide +kernel
theorem rdR_le {S : MS} {a : Int} {b : Nat} : S.rdR a b ≤ b := by
  unfold MS.rdR
  split
  · next q => omega
  · omega
theorem sv_at {S : MS} (ok : okP S) {c : Nat} (h : S.sv = c) : S.kp + 1 ≤ S.siz := (sv_lt ok h).1
/-- behind an opening parenthesis, or an operator -/
theorem gdc_one {S : MS} (p : Pq S) (h : S.kp + 1 ≤ S.siz) : gdc 1 S (S.s_nxt (S.kp + 1)) := by
  have h2 := p.1.kp
  refine gdc_of p ⟨⟨⟨rfl, rfl, rfl, rfl, rfl, rfl⟩, rfl, rfl⟩, ?_, h, fun z => z⟩ rfl rfl rfl ?_
  · show S.nxt ≤ S.kp + 1
    omega
  · show S.nxt + 1 ≤ S.kp + 1
    omega
def fcX (S : MS) : MS := (S.see.s_nst (S.nst + 1)).s_nxt (S.kp + 1)
theorem fcX_P {S : MS} (p : Pq S) (h : S.sv = ((40 : Nat) : Int)) : Pq (fcX S) := by
  have h1 := sv_at p.1 h
  have h2 := p.1.kp
  refine ⟨⟨p.1.1, h1, p.1.2.2⟩, p.2.1, p.2.2.1, ?_⟩
  show S.red 3 + 10 ≤ S.kp + 1
  have := p.2.2.2
  omega
/-- what is known of a reader of sums -/
def SumC (d : Nat) (sm : MS → MS) (k : Nat) : Prop := ∀ X, Pq X → X.nst = k → gdc 0 X (sm X) ∧ ∀ v h top m, Cal v mX11_sum d 0 0 [.ref m] (mH v h m X) top (pV (mH v h m (sm X)) top) noX
theorem fc_gd {d : Nat} {sm : MS → MS} {S : MS} (p : Pq S) (h4 : S.nst ≠ 4 → SumC d sm (S.nst + 1)) : gdc 0 S (fcS sm S) := by
  have ps := (gdc_see p).P p
  unfold fcS
  split
  · next c0 =>
    split
    · next c1 =>
      split
      · exact (gdc_see p).trans (gdc_fls ps ⟨by omega, by omega⟩)
      · next c2 =>
        have pX := fcX_P p c1
        obtain ⟨g, -⟩ := h4 c2 _ pX rfl
        have pY := g.P pX
        obtain ⟨a, hn, hh, hr, hk, hv⟩ := g.trans (gdc_wan (c := 41) pY)
        have h1 := sv_at p.1 (c := 40) c1
        have h2 := p.1.kp
        have aX : adv S (fcX S) := ⟨⟨⟨rfl, rfl, rfl, rfl, rfl, rfl⟩, rfl, rfl⟩, by show S.nxt ≤ S.kp + 1; omega, h1, fun z => z⟩
        have aT := aX.trans a
        refine ⟨⟨⟨aT.1.1, aT.1.2⟩, aT.2.1, aT.2.2.1, aT.2.2.2⟩, rfl, hh, ?_, hk, hv⟩
        have : S.nxt ≤ (fcX S).nxt := aX.2.1
        show ((sm (fcX S)).wan 41).red 3 + S.nxt + 0 ≤ S.red 3 + ((sm (fcX S)).wan 41).nxt
        have hr' : ((sm (fcX S)).wan 41).red 3 + (fcX S).nxt + (0 + 0) ≤ S.red 3 + ((sm (fcX S)).wan 41).nxt := hr
        omega
    · split
      · next c2 =>
        have e : S.see.dgB = true := by unfold MS.dgB; rw [(see_sv p.1).1]; exact c2
        have g := (gdc_see p).trans (gdc_rd (a := 0) (b := 9999) ps c0 e)
        exact (gdc_cod p g (by omega) (by have := rdR_le (S := S.see) (a := 0) (b := 9999); exact Nat.le_trans this (by omega))).1
      · split
        · next c3 => exact (gdc_cod p ((gdc_see p).trans (gdc_tk ps c3 len30.1)) (by omega) (by omega)).1
        · split
          · next c3 => exact (gdc_cod p ((gdc_see p).trans (gdc_tk ps c3 len30.2.1)) (by omega) (by omega)).1
          · split
            · next c3 => exact (gdc_cod p ((gdc_see p).trans (gdc_tk ps c3 len30.2.2)) (by omega) (by omega)).1
            · exact (gdc_see p).trans (gdc_fls ps ⟨by omega, by omega⟩)
  · exact gdc.refl p
theorem fits_s {M' : Md} {d d' : Nat} (h : d' < d) (hm : M'.2.2.1 ≤ 41) : Fits (rmOf d 0 0) M' d' := ⟨h, by
  show 8 + (M'.2.2.1 + 11) + 60 * d' ≤ 60 * d
  omega⟩
theorem tkS_no {S : MS} {i : Nat} (ok : okP S) (h0 : S.err = 0) (h : S.see.tkB i = false) : S.see.tkS i = S.see := by
  unfold MS.tkB at h
  have h0' : S.see.err = 0 := h0
  rw [decide_eq_true h0', Bool.true_and] at h
  unfold MS.tkS
  rw [if_pos h0', if_neg (by rw [h]; simp)]
  exact (see_sv ok).2
section
variable {v : Ev} {h : Hp} {top m : Nat} {S : MS}
theorem c_mFac {d d' : Nat} {sm : MS → MS} (p : Pq S) (hn : S.nst ≤ 4) (h4 : S.nst ≠ 4 → SumC d' sm (S.nst + 1)) (hd : d' < d) (hd8 : 8 ≤ d) : Cal v mX11_factor d 0 0 [.ref m] (mH v h m S) top (pV (mH v h m (fcS sm S)) top) noX := by
  have ps := (gdc_see p).P p
  obtain ⟨b1, b2⟩ := sv_b p.1
  have he := p.2.1
  refine Cal.ofJ (by decide +kernel) rfl (Nat.le_of_ble_eq_true rfl) fun hz0 => ?_
  refine r_ls [some (.ref m), none] rfl ?_
  generalize hPo : pV (mH v h m (fcS sm S)) top = Po
  refine r_aload_n (pc := 0) (i := 0) (tX11_factor.at 0 rfl) rfl rfl ?_
  refine r_get (pc := 1) (tX11_factor.at 1 rfl) gf_X11_71 (mH_0) rfl ?_
  refine r_eq rfl (st2 := [.int (zI S.err)]) rfl ?_
  refine r_err0 (pc := 4) 8 (tX11_factor.at 2 rfl) (by decide) he (fun c0 => ?_) (fun c0 => ?_)
  · refine r_aload_n (pc := 8) (i := 0) (tX11_factor.at 4 rfl) rfl rfl ?_
    refine r_callV (M' := mX11_sees) (pc := 9) (tX11_factor.at 5 rfl) ml_X11_83 rfl mw_X11_sees (fits_s (by omega) (by decide)) (mH_0) rfl rfl (c_mSees p.1) rfl rfl (Nat.le_of_ble_eq_true rfl) (Nat.le_of_ble_eq_true rfl) (Nat.le_of_ble_eq_true rfl) ?_
    rintro _ _ _ ⟨rfl, rfl, rfl⟩
    refine r_bipush (pc := 12) (w := zI 40) (tX11_factor.at 6 rfl) (by decide) ?_
    refine r_icmp_neZ (pc := 14) 77 (tX11_factor.at 7 rfl) (by decide) ⟨by omega, by omega⟩ ⟨by omega, by omega⟩ (fun c1 => ?_) (fun c1 => ?_)
    · refine r_aload_n (pc := 77) (i := 0) (tX11_factor.at 42 rfl) rfl rfl ?_
      refine r_callV (M' := mX11_isDigit) (pc := 78) (tX11_factor.at 43 rfl) ml_X11_100 rfl mw_X11_isDigit (fits_s (by omega) (by decide)) (mH_0) rfl rfl (c_mIsDig ps.1) rfl rfl (Nat.le_of_ble_eq_true rfl) (Nat.le_of_ble_eq_true rfl) (Nat.le_of_ble_eq_true rfl) ?_
      rintro _ _ _ ⟨rfl, rfl, rfl⟩
      have e1 := (see_sv p.1).2
      have e2 : S.see.dgB = S.dgB := by unfold MS.dgB; rw [(see_sv p.1).1]
      rw [e1, e2]
      cases hd : S.dgB with
      | true =>
        rw [Bool.toNat_true]
        refine r_if_eqN (pc := 81) 98 (tX11_factor.at 44 rfl) (by decide) (by omega) (fun c => by omega) (fun _ => ?_)
        refine r_aload_n (pc := 84) (i := 0) (tX11_factor.at 45 rfl) rfl rfl ?_
        refine r_iconst (pc := 85) (w := nI 0) (tX11_factor.at 46 rfl) (by decide) ?_
        refine r_aload_n (pc := 86) (i := 0) (tX11_factor.at 47 rfl) rfl rfl ?_
        refine r_iconst (pc := 87) (w := zI 0) (tX11_factor.at 48 rfl) (by decide) ?_
        refine r_sipush (pc := 88) (w := zI 9999) (tX11_factor.at 49 rfl) (by decide) ?_
        refine r_callV (M' := mX11_reads) (pc := 91) (tX11_factor.at 50 rfl) ml_X11_137 rfl mw_X11_reads (fits_s (by omega) (by decide)) (mH_0) rfl rfl (c_mReads ps.1 he ⟨by omega, by omega⟩ ⟨by omega, by omega⟩) rfl rfl (Nat.le_of_ble_eq_true rfl) (Nat.le_of_ble_eq_true rfl) (Nat.le_of_ble_eq_true rfl) ?_
        rintro _ _ _ ⟨rfl, rfl, rfl⟩
        have g := (gdc_see p).trans (gdc_rd (a := 0) (b := 9999) ps c0 (e2.trans hd))
        obtain ⟨-, hi⟩ := gdc_cod (k := 0) (w := 0) p g (by omega) (by omega)
        refine r_callV (M' := mX11_codes) (pc := 94) (tX11_factor.at 51 rfl) ml_X11_121 rfl mw_X11_codes (fits_s (by omega) (by decide)) (mH_0) rfl rfl (c_mCodes (g.P p).2.1 hi) rfl rfl (Nat.le_of_ble_eq_true rfl) (Nat.le_of_ble_eq_true rfl) (Nat.le_of_ble_eq_true rfl) ?_
        rintro _ _ _ ⟨rfl, rfl, rfl⟩
        refine r_vret (pc := 97) (tX11_factor.at 52 rfl) rfl (Nat.le_of_ble_eq_true rfl) (Nat.le_of_ble_eq_true rfl) ?_
        subst hPo
        rw [fcS, if_pos c0, if_neg c1, if_pos hd]
        exact ⟨rfl, rfl, rfl⟩
      | false =>
        rw [Bool.toNat_false]
        refine r_if_eqN (pc := 81) 98 (tX11_factor.at 44 rfl) (by decide) (by omega) (fun _ => ?_) (fun c => by omega)
        have tail : ∀ (S2 : MS) (w : Nat), gdc 1 S S2 → w ≤ 2 → fcS sm S = S2.cod 5 w → J v mX11_factor (rmOf d 0 0) (KM v Po noX 0 0) top 0 0 (mH v h m S2) top 138 [some (.ref m), none] [.int (nI w)] := by
          intro S2 w g hw e
          obtain ⟨-, hi⟩ := gdc_cod (k := 5) (w := w) p g (by omega) (by omega)
          refine r_istore_n (pc := 138) (i := 1) (tX11_factor.at 72 rfl) rfl (by decide) ?_
          refine r_iload_n (pc := 139) (i := 1) (tX11_factor.at 73 rfl) rfl rfl ?_
          rw [← zI_nat w]
          refine r_iconst (pc := 140) (w := zI (-1)) (tX11_factor.at 74 rfl) (by decide) ?_
          refine r_icmp_neZ (pc := 141) 157 (tX11_factor.at 75 rfl) (by decide) ⟨by omega, by omega⟩ ⟨by omega, by omega⟩ (fun _ => ?_) (fun z => by omega)
          refine r_aload_n (pc := 157) (i := 0) (tX11_factor.at 82 rfl) rfl rfl ?_
          refine r_iconst (pc := 158) (w := nI 5) (tX11_factor.at 83 rfl) (by decide) ?_
          refine r_iload_n (pc := 159) (i := 1) (tX11_factor.at 84 rfl) rfl rfl ?_
          rw [zI_nat]
          refine r_callV (M' := mX11_codes) (pc := 160) (tX11_factor.at 85 rfl) ml_X11_121 rfl mw_X11_codes (fits_s (by omega) (by decide)) (mH_0) rfl rfl (c_mCodes (g.P p).2.1 hi) rfl rfl (Nat.le_of_ble_eq_true rfl) (Nat.le_of_ble_eq_true rfl) (Nat.le_of_ble_eq_true rfl) ?_
          rintro _ _ _ ⟨rfl, rfl, rfl⟩
          refine r_vret (pc := 163) (tX11_factor.at 86 rfl) rfl (Nat.le_of_ble_eq_true rfl) (Nat.le_of_ble_eq_true rfl) ?_
          subst hPo
          rw [e]
          exact ⟨rfl, rfl, rfl⟩
        refine r_aload_n (pc := 98) (i := 0) (tX11_factor.at 53 rfl) rfl rfl ?_
        refine r_ldcS 30 (tx := "weight") (pc := 99) (tX11_factor.at 54 rfl) (by decide +kernel) ?_
        refine r_callV (M' := mX11_takes) (pc := 101) (tX11_factor.at 55 rfl) ml_X11_142 rfl mw_X11_takes (fits_s (by omega) (by decide)) (mH_0) rfl rfl (c_mTakes (i := 30) ps.1 he (by decide +kernel)) rfl rfl (Nat.le_of_ble_eq_true rfl) (Nat.le_of_ble_eq_true rfl) (Nat.le_of_ble_eq_true rfl) ?_
        rintro _ _ _ ⟨rfl, rfl, rfl⟩
        cases h1 : S.see.tkB 30 with
        | true =>
          rw [Bool.toNat_true]
          refine r_if_eqN (pc := 104) 111 (tX11_factor.at 56 rfl) (by decide) (by omega) (fun c => by omega) (fun _ => ?_)
          refine r_iconst (pc := 107) (w := nI 0) (tX11_factor.at 57 rfl) (by decide) ?_
          refine r_goto (pc := 108) 138 (tX11_factor.at 58 rfl) (by decide) ?_
          exact tail (S.see.tkS 30) 0 ((gdc_see p).trans (gdc_tk ps h1 len30.1)) (by omega) (by rw [fcS, if_pos c0, if_neg c1, if_neg (by rw [hd]; simp), if_pos h1])
        | false =>
          rw [Bool.toNat_false, tkS_no p.1 c0 h1]
          refine r_if_eqN (pc := 104) 111 (tX11_factor.at 56 rfl) (by decide) (by omega) (fun _ => ?_) (fun c => by omega)
          refine r_aload_n (pc := 111) (i := 0) (tX11_factor.at 59 rfl) rfl rfl ?_
          refine r_ldcS 31 (tx := "from") (pc := 112) (tX11_factor.at 60 rfl) (by decide +kernel) ?_
          refine r_callV (M' := mX11_takes) (pc := 114) (tX11_factor.at 61 rfl) ml_X11_142 rfl mw_X11_takes (fits_s (by omega) (by decide)) (mH_0) rfl rfl (c_mTakes (i := 31) ps.1 he (by decide +kernel)) rfl rfl (Nat.le_of_ble_eq_true rfl) (Nat.le_of_ble_eq_true rfl) (Nat.le_of_ble_eq_true rfl) ?_
          rintro _ _ _ ⟨rfl, rfl, rfl⟩
          cases h2 : S.see.tkB 31 with
          | true =>
            rw [Bool.toNat_true]
            refine r_if_eqN (pc := 117) 124 (tX11_factor.at 62 rfl) (by decide) (by omega) (fun c => by omega) (fun _ => ?_)
            refine r_iconst (pc := 120) (w := nI 1) (tX11_factor.at 63 rfl) (by decide) ?_
            refine r_goto (pc := 121) 138 (tX11_factor.at 64 rfl) (by decide) ?_
            exact tail (S.see.tkS 31) 1 ((gdc_see p).trans (gdc_tk ps h2 len30.2.1)) (by omega) (by rw [fcS, if_pos c0, if_neg c1, if_neg (by rw [hd]; simp), if_neg (by rw [h1]; simp), if_pos h2])
          | false =>
            rw [Bool.toNat_false, tkS_no p.1 c0 h2]
            refine r_if_eqN (pc := 117) 124 (tX11_factor.at 62 rfl) (by decide) (by omega) (fun _ => ?_) (fun c => by omega)
            refine r_aload_n (pc := 124) (i := 0) (tX11_factor.at 65 rfl) rfl rfl ?_
            refine r_ldcS 32 (tx := "to") (pc := 125) (tX11_factor.at 66 rfl) (by decide +kernel) ?_
            refine r_callV (M' := mX11_takes) (pc := 127) (tX11_factor.at 67 rfl) ml_X11_142 rfl mw_X11_takes (fits_s (by omega) (by decide)) (mH_0) rfl rfl (c_mTakes (i := 32) ps.1 he (by decide +kernel)) rfl rfl (Nat.le_of_ble_eq_true rfl) (Nat.le_of_ble_eq_true rfl) (Nat.le_of_ble_eq_true rfl) ?_
            rintro _ _ _ ⟨rfl, rfl, rfl⟩
            cases h3 : S.see.tkB 32 with
            | true =>
              rw [Bool.toNat_true]
              refine r_if_eqN (pc := 130) 137 (tX11_factor.at 68 rfl) (by decide) (by omega) (fun c => by omega) (fun _ => ?_)
              refine r_iconst (pc := 133) (w := nI 2) (tX11_factor.at 69 rfl) (by decide) ?_
              refine r_goto (pc := 134) 138 (tX11_factor.at 70 rfl) (by decide) ?_
              exact tail (S.see.tkS 32) 2 ((gdc_see p).trans (gdc_tk ps h3 len30.2.2)) (by omega) (by rw [fcS, if_pos c0, if_neg c1, if_neg (by rw [hd]; simp), if_neg (by rw [h1]; simp), if_neg (by rw [h2]; simp), if_pos h3])
            | false =>
              rw [Bool.toNat_false, tkS_no p.1 c0 h3]
              refine r_if_eqN (pc := 130) 137 (tX11_factor.at 68 rfl) (by decide) (by omega) (fun _ => ?_) (fun c => by omega)
              refine r_iconst (pc := 137) (w := zI (-1)) (tX11_factor.at 71 rfl) (by decide) ?_
              refine r_istore_n (pc := 138) (i := 1) (tX11_factor.at 72 rfl) rfl (by decide) ?_
              refine r_iload_n (pc := 139) (i := 1) (tX11_factor.at 73 rfl) rfl rfl ?_
              refine r_iconst (pc := 140) (w := zI (-1)) (tX11_factor.at 74 rfl) (by decide) ?_
              refine r_icmp_neZ (pc := 141) 157 (tX11_factor.at 75 rfl) (by decide) ⟨by omega, by omega⟩ ⟨by omega, by omega⟩ (fun z => absurd rfl z) (fun _ => ?_)
              refine r_aload_n (pc := 144) (i := 0) (tX11_factor.at 76 rfl) rfl rfl ?_
              refine r_bipush (pc := 145) (w := zI (-2)) (tX11_factor.at 77 rfl) (by decide) ?_
              refine r_aload_n (pc := 147) (i := 0) (tX11_factor.at 78 rfl) rfl rfl ?_
              refine r_get (pc := 148) (tX11_factor.at 79 rfl) gf_X11_77 (mH_0) rfl ?_
              refine r_eq rfl (st2 := [.int (nI S.kp), .int (zI (-2)), .ref m]) rfl ?_
              refine r_callV (M' := mX11_fails) (pc := 151) (tX11_factor.at 80 rfl) ml_X11_96 rfl mw_X11_fails (fits_s (by omega) (by decide)) (mH_0) rfl rfl (c_mFails (S := S.see) he) rfl rfl (Nat.le_of_ble_eq_true rfl) (Nat.le_of_ble_eq_true rfl) (Nat.le_of_ble_eq_true rfl) ?_
              rintro _ _ _ ⟨rfl, rfl, rfl⟩
              refine r_goto (pc := 154) 163 (tX11_factor.at 81 rfl) (by decide) ?_
              refine r_vret (pc := 163) (tX11_factor.at 86 rfl) rfl (Nat.le_of_ble_eq_true rfl) (Nat.le_of_ble_eq_true rfl) ?_
              subst hPo
              rw [fcS, if_pos c0, if_neg c1, if_neg (by rw [hd]; simp), if_neg (by rw [h1]; simp), if_neg (by rw [h2]; simp), if_neg (by rw [h3]; simp)]
              exact ⟨rfl, rfl, rfl⟩
    · refine r_aload_n (pc := 17) (i := 0) (tX11_factor.at 8 rfl) rfl rfl ?_
      refine r_get (pc := 18) (tX11_factor.at 9 rfl) gf_X11_127 (mH_0) rfl ?_
      refine r_eq rfl (st2 := [.int (nI S.nst)]) rfl ?_
      refine r_iconst (pc := 21) (w := nI 4) (tX11_factor.at 10 rfl) (by decide) ?_
      by_cases c2 : S.nst = 4
      · refine r_icmp_neN (pc := 22) 36 (tX11_factor.at 11 rfl) (by decide) (by omega) (by omega) (fun c => by omega) (fun _ => ?_)
        refine r_aload_n (pc := 25) (i := 0) (tX11_factor.at 12 rfl) rfl rfl ?_
        refine r_bipush (pc := 26) (w := zI (-5)) (tX11_factor.at 13 rfl) (by decide) ?_
        refine r_aload_n (pc := 28) (i := 0) (tX11_factor.at 14 rfl) rfl rfl ?_
        refine r_get (pc := 29) (tX11_factor.at 15 rfl) gf_X11_77 (mH_0) rfl ?_
        refine r_eq rfl (st2 := [.int (nI S.kp), .int (zI (-5)), .ref m]) rfl ?_
        refine r_callV (M' := mX11_fails) (pc := 32) (tX11_factor.at 16 rfl) ml_X11_96 rfl mw_X11_fails (fits_s (by omega) (by decide)) (mH_0) rfl rfl (c_mFails (S := S.see) he) rfl rfl (Nat.le_of_ble_eq_true rfl) (Nat.le_of_ble_eq_true rfl) (Nat.le_of_ble_eq_true rfl) ?_
        rintro _ _ _ ⟨rfl, rfl, rfl⟩
        refine r_vret (pc := 35) (tX11_factor.at 17 rfl) rfl (Nat.le_of_ble_eq_true rfl) (Nat.le_of_ble_eq_true rfl) ?_
        subst hPo
        rw [fcS, if_pos c0, if_pos c1, if_pos c2]
        exact ⟨rfl, rfl, rfl⟩
      · have pX := fcX_P p c1
        obtain ⟨g, cS⟩ := h4 c2 _ pX rfl
        have pY := g.P pX
        have nY : (sm (fcX S)).nst = S.nst + 1 := g.2.1
        refine r_icmp_neN (pc := 22) 36 (tX11_factor.at 11 rfl) (by decide) (by omega) (by omega) (fun _ => ?_) (fun c => by omega)
        refine r_aload_n (pc := 36) (i := 0) (tX11_factor.at 18 rfl) rfl rfl ?_
        refine r_dup (pc := 37) (tX11_factor.at 19 rfl) rfl ?_
        refine r_get (pc := 38) (tX11_factor.at 20 rfl) gf_X11_127 (mH_0) rfl ?_
        refine r_eq rfl (st2 := [.int (nI S.nst), .ref m]) rfl ?_
        refine r_iconst (pc := 41) (w := nI 1) (tX11_factor.at 21 rfl) (by decide) ?_
        first | refine r_iaddN (pc := 42) (tX11_factor.at 22 rfl) ?_ | refine r_iaddZ (pc := 42) (tX11_factor.at 22 rfl) ?_ | refine r_iadd (pc := 42) (tX11_factor.at 22 rfl) ?_
        refine r_put (pc := 43) (tX11_factor.at 23 rfl) pf_X11_127 (mH_0) (Nat.le_of_ble_eq_true rfl) (rfl) (rfl) ?_
        refine r_eq (h2 := mH v h m (S.see.s_nst (S.nst + 1))) (mH_p0 (S' := S.see.s_nst (S.nst + 1)) rfl) rfl ?_
        refine r_aload_n (pc := 46) (i := 0) (tX11_factor.at 24 rfl) rfl rfl ?_
        refine r_dup (pc := 47) (tX11_factor.at 25 rfl) rfl ?_
        refine r_get (pc := 48) (tX11_factor.at 26 rfl) gf_X11_77 (mH_0) rfl ?_
        refine r_eq rfl (st2 := [.int (nI S.kp), .ref m]) rfl ?_
        refine r_iconst (pc := 51) (w := nI 1) (tX11_factor.at 27 rfl) (by decide) ?_
        first | refine r_iaddN (pc := 52) (tX11_factor.at 28 rfl) ?_ | refine r_iaddZ (pc := 52) (tX11_factor.at 28 rfl) ?_ | refine r_iadd (pc := 52) (tX11_factor.at 28 rfl) ?_
        refine r_put (pc := 53) (tX11_factor.at 29 rfl) pf_X11_77 (mH_0) (Nat.le_of_ble_eq_true rfl) (rfl) (rfl) ?_
        refine r_eq (h2 := mH v h m (fcX S)) (mH_p0 (S' := fcX S) rfl) rfl ?_
        refine r_aload_n (pc := 56) (i := 0) (tX11_factor.at 30 rfl) rfl rfl ?_
        refine r_callV (M' := mX11_sum) (pc := 57) (tX11_factor.at 31 rfl) ml_X11_130 rfl mw_X11_sum (fits_s (by omega) (by decide)) (mH_0) rfl rfl (cS v h top m) rfl rfl (Nat.le_of_ble_eq_true rfl) (Nat.le_of_ble_eq_true rfl) (Nat.le_of_ble_eq_true rfl) ?_
        rintro _ _ _ ⟨rfl, rfl, rfl⟩
        refine r_aload_n (pc := 60) (i := 0) (tX11_factor.at 32 rfl) rfl rfl ?_
        refine r_bipush (pc := 61) (w := nI 41) (tX11_factor.at 33 rfl) (by decide) ?_
        refine r_callV (M' := mX11_wants) (pc := 63) (tX11_factor.at 34 rfl) ml_X11_133 rfl mw_X11_wants (fits_s (by omega) (by decide)) (mH_0) rfl rfl (c_mWants pY.1 pY.2.1 (by omega)) rfl rfl (Nat.le_of_ble_eq_true rfl) (Nat.le_of_ble_eq_true rfl) (Nat.le_of_ble_eq_true rfl) ?_
        rintro _ _ _ ⟨rfl, rfl, rfl⟩
        refine r_aload_n (pc := 66) (i := 0) (tX11_factor.at 35 rfl) rfl rfl ?_
        refine r_dup (pc := 67) (tX11_factor.at 36 rfl) rfl ?_
        refine r_get (pc := 68) (tX11_factor.at 37 rfl) gf_X11_127 (mH_0) rfl ?_
        have nW : ((sm (fcX S)).wan 41).nst = S.nst + 1 := wan_red.2.2.trans nY
        refine r_eq rfl (st2 := [.int (nI (S.nst + 1)), .ref m]) (by rw [← nW]; rfl) ?_
        refine r_iconst (pc := 71) (w := nI 1) (tX11_factor.at 38 rfl) (by decide) ?_
        refine r_isubN (pc := 72) (tX11_factor.at 39 rfl) (by omega) ?_
        refine r_put (pc := 73) (tX11_factor.at 40 rfl) pf_X11_127 (mH_0) (Nat.le_of_ble_eq_true rfl) (rfl) (rfl) ?_
        refine r_eq (h2 := mH v h m (((sm (fcX S)).wan 41).s_nst S.nst)) (mH_p0 (S' := ((sm (fcX S)).wan 41).s_nst S.nst) rfl) rfl ?_
        refine r_vret (pc := 76) (tX11_factor.at 41 rfl) rfl (Nat.le_of_ble_eq_true rfl) (Nat.le_of_ble_eq_true rfl) ?_
        subst hPo
        rw [fcS, if_pos c0, if_pos c1, if_neg c2]
        exact ⟨rfl, rfl, rfl⟩
  · refine r_vret (pc := 7) (tX11_factor.at 3 rfl) rfl (Nat.le_of_ble_eq_true rfl) (Nat.le_of_ble_eq_true rfl) ?_
    subst hPo
    rw [fcS, if_neg c0]
    exact ⟨rfl, rfl, rfl⟩
end

