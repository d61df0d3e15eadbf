/-! ===== the reference: terms, sums ===== -/
def LvC (M : Md) (d : Nat) (fc : MS → MS) (k : Nat) : Prop := ∀ X, Pq X → X.nst = k → gdc 0 X (fc X) ∧ ∀ v h top m, Cal v M d 0 0 [.ref m] (mH v h m X) top (pV (mH v h m (fc X)) top) noX
theorem gdc.nst {c : Nat} {A B : MS} (g : gdc c A B) : B.nst = A.nst := g.2.1
theorem tmL_gd {M : Md} {d c1 c2 k1 k2 k : Nat} {fc : MS → MS} (hfc : LvC M d fc k) (hk1 : k1 ≤ 10000) (hk2 : k2 ≤ 10000) : ∀ f S, Pq S → S.nst = k → gdc 0 S (tmL c1 c2 k1 k2 fc f S)
  | 0, S, p, _ => gdc.refl p
  | f + 1, S, p, hn => by
    rw [tmL]
    split
    · split
      · next c =>
        have h1 : S.kp + 1 ≤ S.siz := c.elim (fun z => sv_at p.1 z) (fun z => sv_at p.1 z)
        have g1 := gdc_one p h1
        have pX := g1.P p
        obtain ⟨g2, -⟩ := hfc _ pX hn
        have g3 := g1.trans g2
        obtain ⟨g4, -⟩ := gdc_cod (k := if S.sv = c1 then k1 else k2) (w := 0) p g3 (by split <;> omega) (by omega)
        have pY := g4.P p
        have := tmL_gd (c1 := c1) (c2 := c2) hfc hk1 hk2 f _ pY (g4.nst.trans hn)
        exact g4.trans this
      · exact gdc_see p
    · exact gdc.refl p
section
variable {v : Ev} {h : Hp} {top m : Nat} {S : MS}
theorem c_mTerm {d d' k : Nat} {fc : MS → MS} (hfc : LvC mX11_factor d' fc k) (p : Pq S) (hn : S.nst = k) (hd : d' < d) (hd8 : 2 ≤ d) : Cal v mX11_term d 0 0 [.ref m] (mH v h m S) top (pV (mH v h m (tmS fc S)) top) noX := by
  obtain ⟨g0, c0⟩ := hfc S p hn
  have p0 := g0.P p
  refine Cal.ofJ (by decide +kernel) rfl (Nat.le_of_ble_eq_true rfl) fun hz0 => ?_
  refine r_ls [some (.ref m), none] rfl ?_
  generalize hPo : pV (mH v h m (tmS fc S)) top = Po
  have key : ∀ f X o1, Pq X → X.nst = k → X.siz - X.nxt < f → tmL 42 47 3 4 fc f X = tmS fc S → J v mX11_term (rmOf d 0 0) (KM v Po noX 0 0) top 0 0 (mH v h m X) top 4 [some (.ref m), o1] [] := by
    intro f
    induction f with
    | zero => intro X o1 _ _ hf; omega
    | succ f ih =>
      intro X o1 p hn hf hT
      obtain ⟨b1, b2⟩ := sv_b p.1
      obtain ⟨e1, e2⟩ := see_sv p.1
      have ps := (gdc_see p).P p
      have he := p.2.1
      rw [tmL] at hT
      refine r_aload_n (pc := 4) (i := 0) (tX11_term.at 2 rfl) rfl rfl ?_
      refine r_get (pc := 5) (tX11_term.at 3 rfl) gf_X11_71 (mH_0) rfl ?_
      refine r_eq rfl (st2 := [.int (zI X.err)]) rfl ?_
      refine r_err1 (pc := 8) 75 (tX11_term.at 4 rfl) (by decide) he (fun c => ?_) (fun c => ?_)
      · rw [if_neg c] at hT
        refine r_vret (pc := 75) (tX11_term.at 38 rfl) rfl (Nat.le_of_ble_eq_true rfl) (Nat.le_of_ble_eq_true rfl) ?_
        subst hPo
        rw [← hT]
        exact ⟨rfl, rfl, rfl⟩
      · rw [if_pos c] at hT
        -- an operator
        have opr : ∀ b : Bool, (b = true ↔ X.sv = (42 : Nat)) → (X.sv = (42 : Nat) ∨ X.sv = (47 : Nat)) → J v mX11_term (rmOf d 0 0) (KM v Po noX 0 0) top 0 0 (mH v h m X.see) top 43 [some (.ref m), o1] [.int (nI (Bool.toNat b))] := by
          intro b hb hc
          rw [if_pos hc] at hT
          have h1 : X.kp + 1 ≤ X.siz := hc.elim (fun z => sv_at p.1 z) (fun z => sv_at p.1 z)
          have h2 := p.1.kp
          have g1 := gdc_one p h1
          have pX := g1.P p
          obtain ⟨g2, c2⟩ := hfc _ pX hn
          have g3 := g1.trans g2
          obtain ⟨g4, hi⟩ := gdc_cod (k := if X.sv = (42 : Nat) then 3 else 4) (w := 0) p g3 (by split <;> omega) (by omega)
          have pY := g4.P p
          refine r_istore_n (pc := 43) (i := 1) (tX11_term.at 20 rfl) rfl (by decide) ?_
          refine r_aload_n (pc := 44) (i := 0) (tX11_term.at 21 rfl) rfl rfl ?_
          refine r_dup (pc := 45) (tX11_term.at 22 rfl) rfl ?_
          refine r_get (pc := 46) (tX11_term.at 23 rfl) gf_X11_77 (mH_0) rfl ?_
          refine r_eq rfl (st2 := [.int (nI X.kp), .ref m]) rfl ?_
          refine r_iconst (pc := 49) (w := nI 1) (tX11_term.at 24 rfl) (by decide) ?_
          first | refine r_iaddN (pc := 50) (tX11_term.at 25 rfl) ?_ | refine r_iaddZ (pc := 50) (tX11_term.at 25 rfl) ?_ | refine r_iadd (pc := 50) (tX11_term.at 25 rfl) ?_
          refine r_put (pc := 51) (tX11_term.at 26 rfl) pf_X11_77 (mH_0) (Nat.le_of_ble_eq_true rfl) (rfl) (rfl) ?_
          refine r_eq (h2 := mH v h m (X.s_nxt (X.kp + 1))) (mH_p0 (S' := X.s_nxt (X.kp + 1)) rfl) rfl ?_
          refine r_aload_n (pc := 54) (i := 0) (tX11_term.at 27 rfl) rfl rfl ?_
          refine r_callV (M' := mX11_factor) (pc := 55) (tX11_term.at 28 rfl) ml_X11_124 rfl mw_X11_factor (fits_s (by omega) (by decide)) (mH_0) rfl rfl (c2 v h top m) rfl rfl (Nat.le_of_ble_eq_true rfl) (Nat.le_of_ble_eq_true rfl) (Nat.le_of_ble_eq_true rfl) ?_
          rintro _ _ _ ⟨rfl, rfl, rfl⟩
          have tail : ∀ y, y = (if X.sv = (42 : Nat) then 3 else 4) → J v mX11_term (rmOf d 0 0) (KM v Po noX 0 0) top 0 0 (mH v h m (fc (X.s_nxt (X.kp + 1)))) top 68 [some (.ref m), some (.int (nI (Bool.toNat b)))] [.int (nI y), .ref m] := by
            intro y hy
            rw [← hy] at hT g4 pY
            refine r_iconst (pc := 68) (w := nI 0) (tX11_term.at 35 rfl) (by decide) ?_
            refine r_callV (M' := mX11_codes) (pc := 69) (tX11_term.at 36 rfl) ml_X11_121 rfl mw_X11_codes (fits_s (by omega) (by decide)) (mH_0) rfl rfl (c_mCodes (g3.P p).2.1 hi) rfl rfl (Nat.le_of_ble_eq_true rfl) (Nat.le_of_ble_eq_true rfl) (Nat.le_of_ble_eq_true rfl) ?_
            rintro _ _ _ ⟨rfl, rfl, rfl⟩
            refine r_goto (pc := 72) 4 (tX11_term.at 37 rfl) (by decide) ?_
            refine ih _ _ pY (g4.nst.trans hn) ?_ hT
            have s1 : ((fc (X.s_nxt (X.kp + 1))).cod y 0).siz = X.siz := g4.1.1.1.2.2.2.2.1
            have s2 : X.kp + 1 ≤ ((fc (X.s_nxt (X.kp + 1))).cod y 0).nxt := by
              have a1 : X.kp + 1 ≤ (fc (X.s_nxt (X.kp + 1))).nxt := g2.1.2.1
              have a2 := (cod_adv (k := y) (w := 0) ((g3.P p).1)).2.1
              omega
            omega
          refine r_aload_n (pc := 58) (i := 0) (tX11_term.at 29 rfl) rfl rfl ?_
          refine r_iload_n (pc := 59) (i := 1) (tX11_term.at 30 rfl) rfl rfl ?_
          cases b with
          | true =>
            rw [Bool.toNat_true]
            refine r_if_eqN (pc := 60) 67 (tX11_term.at 31 rfl) (by decide) (by omega) (fun c => by omega) (fun _ => ?_)
            refine r_iconst (pc := 63) (w := nI 3) (tX11_term.at 32 rfl) (by decide) ?_
            refine r_goto (pc := 64) 68 (tX11_term.at 33 rfl) (by decide) ?_
            exact tail 3 (by rw [if_pos (hb.mp rfl)])
          | false =>
            rw [Bool.toNat_false]
            refine r_if_eqN (pc := 60) 67 (tX11_term.at 31 rfl) (by decide) (by omega) (fun _ => ?_) (fun c => by omega)
            refine r_iconst (pc := 67) (w := nI 4) (tX11_term.at 34 rfl) (by decide) ?_
            refine tail 4 ?_
            rw [if_neg (fun z => by have := hb.mpr z; cases this)]
        have third : (X.sv = (42 : Nat) ∨ X.sv = (47 : Nat)) → J v mX11_term (rmOf d 0 0) (KM v Po noX 0 0) top 0 0 (mH v h m X.see) top 29 [some (.ref m), o1] [] := by
          intro hc
          refine r_aload_n (pc := 29) (i := 0) (tX11_term.at 13 rfl) rfl rfl ?_
          refine r_callV (M' := mX11_sees) (pc := 30) (tX11_term.at 14 rfl) ml_X11_83 rfl mw_X11_sees (fits_s (by omega) (by decide)) (mH_0) rfl rfl (c_mSees (S := X.see) ps.1) rfl rfl (Nat.le_of_ble_eq_true rfl) (Nat.le_of_ble_eq_true rfl) (Nat.le_of_ble_eq_true rfl) ?_
          rintro _ _ _ ⟨rfl, rfl, rfl⟩
          rw [e1, e2]
          refine r_bipush (pc := 33) (w := zI 42) (tX11_term.at 15 rfl) (by decide) ?_
          refine r_icmp_neZ (pc := 35) 42 (tX11_term.at 16 rfl) (by decide) ⟨by omega, by omega⟩ ⟨by omega, by omega⟩ (fun q => ?_) (fun q => ?_)
          · refine r_iconst (pc := 42) (w := nI (Bool.toNat false)) (tX11_term.at 19 rfl) (by decide) ?_
            exact opr false ⟨(fun z => by cases z), fun z => absurd z q⟩ hc
          · refine r_iconst (pc := 38) (w := nI (Bool.toNat true)) (tX11_term.at 17 rfl) (by decide) ?_
            refine r_goto (pc := 39) 43 (tX11_term.at 18 rfl) (by decide) ?_
            exact opr true ⟨fun _ => q, fun _ => rfl⟩ hc
        refine r_aload_n (pc := 11) (i := 0) (tX11_term.at 5 rfl) rfl rfl ?_
        refine r_callV (M' := mX11_sees) (pc := 12) (tX11_term.at 6 rfl) ml_X11_83 rfl mw_X11_sees (fits_s (by omega) (by decide)) (mH_0) rfl rfl (c_mSees p.1) rfl rfl (Nat.le_of_ble_eq_true rfl) (Nat.le_of_ble_eq_true rfl) (Nat.le_of_ble_eq_true rfl) ?_
        rintro _ _ _ ⟨rfl, rfl, rfl⟩
        refine r_bipush (pc := 15) (w := zI 42) (tX11_term.at 7 rfl) (by decide) ?_
        refine r_icmp_eqZ (pc := 17) 29 (tX11_term.at 8 rfl) (by decide) ⟨by omega, by omega⟩ ⟨by omega, by omega⟩ (fun q => third (Or.inl q)) (fun q => ?_)
        refine r_aload_n (pc := 20) (i := 0) (tX11_term.at 9 rfl) rfl rfl ?_
        refine r_callV (M' := mX11_sees) (pc := 21) (tX11_term.at 10 rfl) ml_X11_83 rfl mw_X11_sees (fits_s (by omega) (by decide)) (mH_0) rfl rfl (c_mSees (S := X.see) ps.1) rfl rfl (Nat.le_of_ble_eq_true rfl) (Nat.le_of_ble_eq_true rfl) (Nat.le_of_ble_eq_true rfl) ?_
        rintro _ _ _ ⟨rfl, rfl, rfl⟩
        rw [e1, e2]
        refine r_bipush (pc := 24) (w := zI 47) (tX11_term.at 11 rfl) (by decide) ?_
        refine r_icmp_neZ (pc := 26) 75 (tX11_term.at 12 rfl) (by decide) ⟨by omega, by omega⟩ ⟨by omega, by omega⟩ (fun q2 => ?_) (fun q2 => third (Or.inr q2))
        rw [if_neg (fun z => z.elim q q2)] at hT
        refine r_vret (pc := 75) (tX11_term.at 38 rfl) rfl (Nat.le_of_ble_eq_true rfl) (Nat.le_of_ble_eq_true rfl) ?_
        subst hPo
        rw [← hT]
        exact ⟨rfl, rfl, rfl⟩
  refine r_aload_n (pc := 0) (i := 0) (tX11_term.at 0 rfl) rfl rfl ?_
  refine r_callV (M' := mX11_factor) (pc := 1) (tX11_term.at 1 rfl) ml_X11_124 rfl mw_X11_factor (fits_s (by omega) (by decide)) (mH_0) rfl rfl (c0 v h top m) rfl rfl (Nat.le_of_ble_eq_true rfl) (Nat.le_of_ble_eq_true rfl) (Nat.le_of_ble_eq_true rfl) ?_
  rintro _ _ _ ⟨rfl, rfl, rfl⟩
  exact key 601 (fc S) _ p0 (g0.nst.trans hn) (by have := p0.1.1; omega) rfl
theorem c_mSum {d d' k : Nat} {fc : MS → MS} (hfc : LvC mX11_term d' fc k) (p : Pq S) (hn : S.nst = k) (hd : d' < d) (hd8 : 2 ≤ d) : Cal v mX11_sum d 0 0 [.ref m] (mH v h m S) top (pV (mH v h m (smS fc S)) top) noX := by
  obtain ⟨g0, c0⟩ := hfc S p hn
  have p0 := g0.P p
  refine Cal.ofJ (by decide +kernel) rfl (Nat.le_of_ble_eq_true rfl) fun hz0 => ?_
  refine r_ls [some (.ref m), none] rfl ?_
  generalize hPo : pV (mH v h m (smS fc S)) top = Po
  have key : ∀ f X o1, Pq X → X.nst = k → X.siz - X.nxt < f → tmL 43 45 1 2 fc f X = smS fc S → J v mX11_sum (rmOf d 0 0) (KM v Po noX 0 0) top 0 0 (mH v h m X) top 4 [some (.ref m), o1] [] := by
    intro f
    induction f with
    | zero => intro X o1 _ _ hf; omega
    | succ f ih =>
      intro X o1 p hn hf hT
      obtain ⟨b1, b2⟩ := sv_b p.1
      obtain ⟨e1, e2⟩ := see_sv p.1
      have ps := (gdc_see p).P p
      have he := p.2.1
      rw [tmL] at hT
      refine r_aload_n (pc := 4) (i := 0) (tX11_sum.at 2 rfl) rfl rfl ?_
      refine r_get (pc := 5) (tX11_sum.at 3 rfl) gf_X11_71 (mH_0) rfl ?_
      refine r_eq rfl (st2 := [.int (zI X.err)]) rfl ?_
      refine r_err1 (pc := 8) 75 (tX11_sum.at 4 rfl) (by decide) he (fun c => ?_) (fun c => ?_)
      · rw [if_neg c] at hT
        refine r_vret (pc := 75) (tX11_sum.at 38 rfl) rfl (Nat.le_of_ble_eq_true rfl) (Nat.le_of_ble_eq_true rfl) ?_
        subst hPo
        rw [← hT]
        exact ⟨rfl, rfl, rfl⟩
      · rw [if_pos c] at hT
        -- an operator
        have opr : ∀ b : Bool, (b = true ↔ X.sv = (43 : Nat)) → (X.sv = (43 : Nat) ∨ X.sv = (45 : Nat)) → J v mX11_sum (rmOf d 0 0) (KM v Po noX 0 0) top 0 0 (mH v h m X.see) top 43 [some (.ref m), o1] [.int (nI (Bool.toNat b))] := by
          intro b hb hc
          rw [if_pos hc] at hT
          have h1 : X.kp + 1 ≤ X.siz := hc.elim (fun z => sv_at p.1 z) (fun z => sv_at p.1 z)
          have h2 := p.1.kp
          have g1 := gdc_one p h1
          have pX := g1.P p
          obtain ⟨g2, c2⟩ := hfc _ pX hn
          have g3 := g1.trans g2
          obtain ⟨g4, hi⟩ := gdc_cod (k := if X.sv = (43 : Nat) then 1 else 2) (w := 0) p g3 (by split <;> omega) (by omega)
          have pY := g4.P p
          refine r_istore_n (pc := 43) (i := 1) (tX11_sum.at 20 rfl) rfl (by decide) ?_
          refine r_aload_n (pc := 44) (i := 0) (tX11_sum.at 21 rfl) rfl rfl ?_
          refine r_dup (pc := 45) (tX11_sum.at 22 rfl) rfl ?_
          refine r_get (pc := 46) (tX11_sum.at 23 rfl) gf_X11_77 (mH_0) rfl ?_
          refine r_eq rfl (st2 := [.int (nI X.kp), .ref m]) rfl ?_
          refine r_iconst (pc := 49) (w := nI 1) (tX11_sum.at 24 rfl) (by decide) ?_
          first | refine r_iaddN (pc := 50) (tX11_sum.at 25 rfl) ?_ | refine r_iaddZ (pc := 50) (tX11_sum.at 25 rfl) ?_ | refine r_iadd (pc := 50) (tX11_sum.at 25 rfl) ?_
          refine r_put (pc := 51) (tX11_sum.at 26 rfl) pf_X11_77 (mH_0) (Nat.le_of_ble_eq_true rfl) (rfl) (rfl) ?_
          refine r_eq (h2 := mH v h m (X.s_nxt (X.kp + 1))) (mH_p0 (S' := X.s_nxt (X.kp + 1)) rfl) rfl ?_
          refine r_aload_n (pc := 54) (i := 0) (tX11_sum.at 27 rfl) rfl rfl ?_
          refine r_callV (M' := mX11_term) (pc := 55) (tX11_sum.at 28 rfl) ml_X11_118 rfl mw_X11_term (fits_s (by omega) (by decide)) (mH_0) rfl rfl (c2 v h top m) rfl rfl (Nat.le_of_ble_eq_true rfl) (Nat.le_of_ble_eq_true rfl) (Nat.le_of_ble_eq_true rfl) ?_
          rintro _ _ _ ⟨rfl, rfl, rfl⟩
          have tail : ∀ y, y = (if X.sv = (43 : Nat) then 1 else 2) → J v mX11_sum (rmOf d 0 0) (KM v Po noX 0 0) top 0 0 (mH v h m (fc (X.s_nxt (X.kp + 1)))) top 68 [some (.ref m), some (.int (nI (Bool.toNat b)))] [.int (nI y), .ref m] := by
            intro y hy
            rw [← hy] at hT g4 pY
            refine r_iconst (pc := 68) (w := nI 0) (tX11_sum.at 35 rfl) (by decide) ?_
            refine r_callV (M' := mX11_codes) (pc := 69) (tX11_sum.at 36 rfl) ml_X11_121 rfl mw_X11_codes (fits_s (by omega) (by decide)) (mH_0) rfl rfl (c_mCodes (g3.P p).2.1 hi) rfl rfl (Nat.le_of_ble_eq_true rfl) (Nat.le_of_ble_eq_true rfl) (Nat.le_of_ble_eq_true rfl) ?_
            rintro _ _ _ ⟨rfl, rfl, rfl⟩
            refine r_goto (pc := 72) 4 (tX11_sum.at 37 rfl) (by decide) ?_
            refine ih _ _ pY (g4.nst.trans hn) ?_ hT
            have s1 : ((fc (X.s_nxt (X.kp + 1))).cod y 0).siz = X.siz := g4.1.1.1.2.2.2.2.1
            have s2 : X.kp + 1 ≤ ((fc (X.s_nxt (X.kp + 1))).cod y 0).nxt := by
              have a1 : X.kp + 1 ≤ (fc (X.s_nxt (X.kp + 1))).nxt := g2.1.2.1
              have a2 := (cod_adv (k := y) (w := 0) ((g3.P p).1)).2.1
              omega
            omega
          refine r_aload_n (pc := 58) (i := 0) (tX11_sum.at 29 rfl) rfl rfl ?_
          refine r_iload_n (pc := 59) (i := 1) (tX11_sum.at 30 rfl) rfl rfl ?_
          cases b with
          | true =>
            rw [Bool.toNat_true]
            refine r_if_eqN (pc := 60) 67 (tX11_sum.at 31 rfl) (by decide) (by omega) (fun c => by omega) (fun _ => ?_)
            refine r_iconst (pc := 63) (w := nI 1) (tX11_sum.at 32 rfl) (by decide) ?_
            refine r_goto (pc := 64) 68 (tX11_sum.at 33 rfl) (by decide) ?_
            exact tail 1 (by rw [if_pos (hb.mp rfl)])
          | false =>
            rw [Bool.toNat_false]
            refine r_if_eqN (pc := 60) 67 (tX11_sum.at 31 rfl) (by decide) (by omega) (fun _ => ?_) (fun c => by omega)
            refine r_iconst (pc := 67) (w := nI 2) (tX11_sum.at 34 rfl) (by decide) ?_
            refine tail 2 ?_
            rw [if_neg (fun z => by have := hb.mpr z; cases this)]
        have third : (X.sv = (43 : Nat) ∨ X.sv = (45 : Nat)) → J v mX11_sum (rmOf d 0 0) (KM v Po noX 0 0) top 0 0 (mH v h m X.see) top 29 [some (.ref m), o1] [] := by
          intro hc
          refine r_aload_n (pc := 29) (i := 0) (tX11_sum.at 13 rfl) rfl rfl ?_
          refine r_callV (M' := mX11_sees) (pc := 30) (tX11_sum.at 14 rfl) ml_X11_83 rfl mw_X11_sees (fits_s (by omega) (by decide)) (mH_0) rfl rfl (c_mSees (S := X.see) ps.1) rfl rfl (Nat.le_of_ble_eq_true rfl) (Nat.le_of_ble_eq_true rfl) (Nat.le_of_ble_eq_true rfl) ?_
          rintro _ _ _ ⟨rfl, rfl, rfl⟩
          rw [e1, e2]
          refine r_bipush (pc := 33) (w := zI 43) (tX11_sum.at 15 rfl) (by decide) ?_
          refine r_icmp_neZ (pc := 35) 42 (tX11_sum.at 16 rfl) (by decide) ⟨by omega, by omega⟩ ⟨by omega, by omega⟩ (fun q => ?_) (fun q => ?_)
          · refine r_iconst (pc := 42) (w := nI (Bool.toNat false)) (tX11_sum.at 19 rfl) (by decide) ?_
            exact opr false ⟨(fun z => by cases z), fun z => absurd z q⟩ hc
          · refine r_iconst (pc := 38) (w := nI (Bool.toNat true)) (tX11_sum.at 17 rfl) (by decide) ?_
            refine r_goto (pc := 39) 43 (tX11_sum.at 18 rfl) (by decide) ?_
            exact opr true ⟨fun _ => q, fun _ => rfl⟩ hc
        refine r_aload_n (pc := 11) (i := 0) (tX11_sum.at 5 rfl) rfl rfl ?_
        refine r_callV (M' := mX11_sees) (pc := 12) (tX11_sum.at 6 rfl) ml_X11_83 rfl mw_X11_sees (fits_s (by omega) (by decide)) (mH_0) rfl rfl (c_mSees p.1) rfl rfl (Nat.le_of_ble_eq_true rfl) (Nat.le_of_ble_eq_true rfl) (Nat.le_of_ble_eq_true rfl) ?_
        rintro _ _ _ ⟨rfl, rfl, rfl⟩
        refine r_bipush (pc := 15) (w := zI 43) (tX11_sum.at 7 rfl) (by decide) ?_
        refine r_icmp_eqZ (pc := 17) 29 (tX11_sum.at 8 rfl) (by decide) ⟨by omega, by omega⟩ ⟨by omega, by omega⟩ (fun q => third (Or.inl q)) (fun q => ?_)
        refine r_aload_n (pc := 20) (i := 0) (tX11_sum.at 9 rfl) rfl rfl ?_
        refine r_callV (M' := mX11_sees) (pc := 21) (tX11_sum.at 10 rfl) ml_X11_83 rfl mw_X11_sees (fits_s (by omega) (by decide)) (mH_0) rfl rfl (c_mSees (S := X.see) ps.1) rfl rfl (Nat.le_of_ble_eq_true rfl) (Nat.le_of_ble_eq_true rfl) (Nat.le_of_ble_eq_true rfl) ?_
        rintro _ _ _ ⟨rfl, rfl, rfl⟩
        rw [e1, e2]
        refine r_bipush (pc := 24) (w := zI 45) (tX11_sum.at 11 rfl) (by decide) ?_
        refine r_icmp_neZ (pc := 26) 75 (tX11_sum.at 12 rfl) (by decide) ⟨by omega, by omega⟩ ⟨by omega, by omega⟩ (fun q2 => ?_) (fun q2 => third (Or.inr q2))
        rw [if_neg (fun z => z.elim q q2)] at hT
        refine r_vret (pc := 75) (tX11_sum.at 38 rfl) rfl (Nat.le_of_ble_eq_true rfl) (Nat.le_of_ble_eq_true rfl) ?_
        subst hPo
        rw [← hT]
        exact ⟨rfl, rfl, rfl⟩
  refine r_aload_n (pc := 0) (i := 0) (tX11_sum.at 0 rfl) rfl rfl ?_
  refine r_callV (M' := mX11_term) (pc := 1) (tX11_sum.at 1 rfl) ml_X11_118 rfl mw_X11_term (fits_s (by omega) (by decide)) (mH_0) rfl rfl (c0 v h top m) rfl rfl (Nat.le_of_ble_eq_true rfl) (Nat.le_of_ble_eq_true rfl) (Nat.le_of_ble_eq_true rfl) ?_
  rintro _ _ _ ⟨rfl, rfl, rfl⟩
  exact key 601 (fc S) _ p0 (g0.nst.trans hn) (by have := p0.1.1; omega) rfl
end
theorem TmC {d d' k : Nat} {fc : MS → MS} (hfc : LvC mX11_factor d' fc k) (hd : d' < d) (hd8 : 2 ≤ d) : LvC mX11_term d (tmS fc) k := fun X p hn => by
  obtain ⟨g, -⟩ := hfc X p hn
  exact ⟨g.trans (tmL_gd hfc (by omega) (by omega) 601 _ (g.P p) (g.nst.trans hn)), fun v h top m => c_mTerm hfc p hn hd hd8⟩
theorem SmC {d d' k : Nat} {tm : MS → MS} (htm : LvC mX11_term d' tm k) (hd : d' < d) (hd8 : 2 ≤ d) : LvC mX11_sum d (smS tm) k := fun X p hn => by
  obtain ⟨g, -⟩ := htm X p hn
  exact ⟨g.trans (tmL_gd htm (by omega) (by omega) 601 _ (g.P p) (g.nst.trans hn)), fun v h top m => c_mSum htm p hn hd hd8⟩
theorem lv_ok : ∀ n, n ≤ 4 → LvC mX11_sum (10 + 3 * n) (lvS n) (4 - n)
  | 0, _ => SmC (d' := 9) (TmC (d' := 8) (fun X p hn => ⟨fc_gd (d := 0) (sm := id) p (fun z => absurd hn z), fun v h top m => c_mFac (d' := 0) (sm := id) p (by omega) (fun z => absurd hn z) (by omega) (by omega)⟩) (by omega) (by omega)) (by omega) (by omega)
  | n + 1, h => by
    have ih := lv_ok n (by omega)
    have ih' : LvC mX11_sum (10 + 3 * n) (lvS n) (4 - (n + 1) + 1) := by rw [show 4 - (n + 1) + 1 = 4 - n by omega]; exact ih
    exact SmC (d' := 9 + 3 * (n + 1)) (TmC (d' := 8 + 3 * (n + 1)) (fun X p hn => ⟨fc_gd (d := 10 + 3 * n) (sm := lvS n) p (fun _ => by rw [hn]; exact ih'), fun v h top m => c_mFac (d' := 10 + 3 * n) (sm := lvS n) p (by omega) (fun _ => by rw [hn]; exact ih') (by omega) (by omega)⟩) (by omega) (by omega)) (by omega) (by omega)

