/-! ===== the reference: texts, load, constructor ===== -/
def zU (f : Nat → Nat) (u : Nat) : Nat → Nat := fun k => if 49 ≤ k ∧ k < 49 + u then k - 49 else if k < 1240 then 0 else f k
def zR (f : Nat → Nat) : Nat → Nat := zU f 6
def MS.tx0 (S : MS) : MS := ((((S.s_red (zR S.red)).s_nxt 0).s_err 0).s_nst 0).s_hco 0
def MS.tx1 (S : MS) : MS := if S.tx0.tkB 25 = true then S.tx0.tkS 25 else (S.tx0.tkS 25).fls (-2) (S.tx0.tkS 25).nxt
def MS.tx2 (S : MS) : MS := (S.tx1.rdS 2 6).s_red (upN (S.tx1.rdS 2 6).red 0 (S.tx1.rdR 2 6))
def MS.tx3 (S : MS) : MS := S.tx2.wan 59
def txL : Nat → MS → MS
  | 0, S => S
  | f + 1, S => if S.err = 0 then (if S.sv = -1 then S.see else txL f S.stm) else S
def MS.txs (S : MS) : MS := txL 601 S.tx3
theorem wan_err0 {S : MS} {c : Nat} (h : (S.wan c).err = 0) : S.err = 0 ∧ S.sv = c ∧ S.wan c = S.s_nxt (S.kp + 1) := by
  unfold MS.wan at h ⊢
  split at h
  · next c0 =>
    split at h
    · next c1 => exact ⟨c0, c1, by rw [if_pos c0, if_pos c1]⟩
    · unfold MS.fls at h
      rw [if_pos (show S.see.err = 0 from c0)] at h
      have : (-2 : Int) = 0 := h
      omega
  · next c0 => exact absurd h c0
theorem rdS_err0 {S : MS} {a b : Int} (h : (S.rdS a b).err = 0) : S.err = 0 ∧ S.dgB = true ∧ (a ≤ S.rdV ∧ (S.rdV : Int) ≤ b) ∧ S.rdS a b = (S.s_beg S.kp).s_nxt (S.kp + S.rdK) ∧ S.rdR a b = S.rdV := by
  unfold MS.rdS at h
  split at h
  · next c0 =>
    split at h
    · next c1 =>
      split at h
      · next c2 => exact ⟨c0, c1, c2, by rw [MS.rdS, if_pos c0, if_pos c1, if_pos c2], by rw [MS.rdR, if_pos ⟨c0, c1, c2⟩]⟩
      · unfold MS.fls at h
        rw [if_pos (show ((S.s_beg S.kp).s_nxt (S.kp + S.rdK)).err = 0 from c0)] at h
        have : (-3 : Int) = 0 := h
        omega
    · unfold MS.fls at h
      rw [if_pos (show S.see.err = 0 from c0)] at h
      have : (-2 : Int) = 0 := h
      omega
  · next c0 => exact absurd h c0
theorem stm_see {S : MS} (ok : okP S) : S.see.stm = S.stm := by
  unfold MS.stm MS.sts MS.co1
  rw [(see_sv ok).2, ok.see.2]
  rfl
def okB (S : MS) : Prop := S.siz ≤ 600 ∧ ∀ k, S.txt k < 256
theorem tx0_ok {S : MS} (h : okB S) : okP S.tx0 ∧ inI S.tx0.err ∧ per2 S S.tx0 := ⟨⟨h.1, Nat.zero_le _, h.2⟩, ⟨by show (-2147483648 : Int) ≤ 0; omega, by show (0 : Int) ≤ 2147483647; omega⟩, ⟨rfl, rfl, rfl, rfl, rfl, rfl⟩, rfl, rfl⟩
theorem tx1_adv {S : MS} (h : okB S) : adv S.tx0 S.tx1 := by
  have ok := (tx0_ok h).1
  have a := tkS_adv (i := 25) ok
  unfold MS.tx1
  split
  · exact a
  · exact a.trans (fls_adv (a.ok ok) ⟨by omega, by omega⟩)
theorem tx2_adv {S : MS} (h : okB S) : adv S.tx0 S.tx2 := by
  have a := tx1_adv h
  have b := a.trans (rdS_adv (a := 2) (b := 6) (a.ok (tx0_ok h).1))
  exact ⟨⟨⟨b.1.1.1, b.1.1.2⟩, b.1.2⟩, b.2.1, b.2.2.1, b.2.2.2⟩
theorem tx3_adv {S : MS} (h : okB S) : adv S.tx0 S.tx3 := by
  have a := tx2_adv h
  exact a.trans (wan_adv (a.ok (tx0_ok h).1))
theorem tx_red {S : MS} : S.tx1.red = zR S.red ∧ S.tx1.hco = 0 ∧ S.tx1.nst = 0 := by
  unfold MS.tx1
  split
  · exact ⟨tkS_red.1, tkS_red.2.1, tkS_red.2.2.1⟩
  · exact ⟨fls_red.1.trans tkS_red.1, fls_red.2.1.trans tkS_red.2.1, fls_red.2.2.trans tkS_red.2.2.1⟩
theorem tx3_I1 {S : MS} (h : okB S) (h0 : S.tx3.err = 0) : I1 S.tx3 := by
  have a3 := tx3_adv h
  have ok0 := (tx0_ok h).1
  obtain ⟨e1, e2, e3⟩ := wan_err0 (S := S.tx2) h0
  have e4 : (S.tx1.rdS 2 6).err = 0 := e1
  obtain ⟨f1, f2, f3, f4, f5⟩ := rdS_err0 e4
  have ok1 := (tx1_adv h).ok ok0
  have hp := dgB_pos ok1 f2
  have ok2 := (tx2_adv h).ok ok0
  have k1 := ok1.kp
  have k2 := ok2.kp
  have n1 : 4 ≤ S.tx1.nxt := by
    unfold MS.tx1 at f1 ⊢
    by_cases c : S.tx0.tkB 25 = true
    · rw [if_pos c]
      have := (tk_len c).2
      rw [len29.2.2.2.2] at this
      omega
    · rw [if_neg c] at f1
      unfold MS.fls at f1
      by_cases c2 : (S.tx0.tkS 25).err = 0
      · rw [if_pos c2] at f1
        have : (-2 : Int) = 0 := f1
        omega
      · rw [if_neg c2] at f1
        exact absurd f1 c2
  have n2 : S.tx2.nxt = S.tx1.kp + S.tx1.rdK := by
    show (S.tx1.rdS 2 6).nxt = _
    rw [f4]
    rfl
  have n3 : S.tx3.nxt = S.tx2.kp + 1 := by
    show (S.tx2.wan 59).nxt = _
    rw [e3]
    rfl
  have r3 : S.tx3.red = upN (zR S.red) 0 (S.tx1.rdR 2 6) := by
    show (S.tx2.wan 59).red = _
    rw [wan_red.1]
    show upN (S.tx1.rdS 2 6).red 0 _ = _
    rw [rdS_red.1, tx_red.1]
  have z0 : ∀ k, 0 < k → k < 49 → zR S.red k = 0 := fun k h1 h2 => by
    unfold zR zU
    rw [if_neg (by omega), if_pos (by omega)]
  have hn : S.tx3.nst = 0 := by
    show (S.tx2.wan 59).nst = 0
    rw [wan_red.2.2]
    exact rdS_red.2.2.trans tx_red.2.2
  have hh : S.tx3.hco = 0 := by
    show (S.tx2.wan 59).hco = 0
    rw [wan_red.2.1]
    exact rdS_red.2.1.trans tx_red.2.1
  refine ⟨⟨a3.ok ok0, a3.2.2.2 (tx0_ok h).2.1⟩, ?_, hn, ⟨by omega, fun _ => ?_⟩, by omega⟩
  · rw [r3]
    refine ⟨?_, ?_, ?_, ?_, fun k hk => ?_⟩
    · rw [upN_eq, f5]; omega
    · rw [upN_ne _ _ (by omega), z0 _ (by omega) (by omega)]; omega
    · rw [upN_ne _ _ (by omega), z0 _ (by omega) (by omega)]; omega
    · rw [upN_ne _ _ (by omega), z0 _ (by omega) (by omega)]; omega
    · unfold upN
      split
      · rw [f5]; omega
      · unfold zR zU
        split
        · omega
        · simp [hk]
  · rw [r3, upN_ne _ _ (by omega)]
    exact z0 _ (by omega) (by omega)
theorem stm_I1 {S : MS} (h : I1 S) (h0 : S.err = 0) : I1 S.stm ∧ adv S S.stm ∧ (S.stm.err = 0 → S.nxt < S.stm.nxt) := by
  obtain ⟨s1, s2, s3⟩ := sts_I1 h h0
  have w := wan_adv (c := 59) s1.1.1
  refine ⟨s1.wan 59, s2.trans w, fun z => ?_⟩
  obtain ⟨e1, -, -⟩ := wan_err0 z
  have := s3 e1
  have := w.2.1
  show S.nxt < (S.sts.wan 59).nxt
  omega
theorem txL_adv : ∀ f S, (okP S ∧ inI S.err) → (S.err = 0 → I1 S) → adv S (txL f S)
  | 0, S, h, _ => adv.refl h.1
  | f + 1, S, h, h2 => by
    rw [txL]
    split
    · next c0 =>
      split
      · exact adv_see h.1
      · obtain ⟨s1, s2, -⟩ := stm_I1 (h2 c0) c0
        exact s2.trans (txL_adv f _ ⟨s1.1.1, s1.1.2⟩ (fun _ => s1))
    · exact adv.refl h.1
theorem txs_per {S : MS} (h : okB S) : per2 S S.txs ∧ okP S.txs ∧ inI S.txs.err := by
  have a3 := tx3_adv h
  have ok3 := a3.ok (tx0_ok h).1
  have in3 := a3.2.2.2 (tx0_ok h).2.1
  have aL := txL_adv 601 S.tx3 ⟨ok3, in3⟩ (fun z => tx3_I1 h z)
  exact ⟨(tx0_ok h).2.2.trans (a3.trans aL).1, aL.ok ok3, aL.2.2.2 in3⟩
section
variable {v : Ev} {h : Hp} {top m : Nat} {S : MS}
theorem c_mTexts (hb : okB S) : Cal v mX11_texts 24 0 0 [.ref m] (mH v h m S) top (pV (mH v h m S.txs) top) noX := by
  obtain ⟨ok0, in0, -⟩ := tx0_ok hb
  have a1 := tx1_adv hb
  have a2 := tx2_adv hb
  have a3 := tx3_adv hb
  have ok1 := a1.ok ok0
  have ok2 := a2.ok ok0
  have ok3 := a3.ok ok0
  refine Cal.ofJ (by decide +kernel) rfl (Nat.le_of_ble_eq_true rfl) fun hz0 => ?_
  refine r_ls [some (.ref m), none] rfl ?_
  generalize hPo : pV (mH v h m S.txs) top = Po
  have k3 : ∀ f X o1, (okP X ∧ inI X.err) → (X.err = 0 → I1 X) → X.siz - X.nxt < f → txL f X = S.txs → J v mX11_texts (rmOf 24 0 0) (KM v Po noX 0 0) top 0 0 (mH v h m X) top 104 [some (.ref m), o1] [] := by
    intro f
    induction f with
    | zero => intro X o1 _ _ hf; omega
    | succ f ih =>
      intro X o1 hX hI hf hT
      obtain ⟨b1, b2⟩ := sv_b hX.1
      rw [txL] at hT
      refine r_aload_n (pc := 104) (i := 0) (tX11_texts.at 58 rfl) rfl rfl ?_
      refine r_get (pc := 105) (tX11_texts.at 59 rfl) gf_X11_71 (mH_0) rfl ?_
      refine r_eq rfl (st2 := [.int (zI X.err)]) rfl ?_
      refine r_err1 (pc := 108) 126 (tX11_texts.at 60 rfl) (by decide) hX.2 (fun c => ?_) (fun c => ?_)
      · rw [if_neg c] at hT
        refine r_vret (pc := 126) (tX11_texts.at 68 rfl) rfl (Nat.le_of_ble_eq_true rfl) (Nat.le_of_ble_eq_true rfl) ?_
        subst hPo
        rw [← hT]
        exact ⟨rfl, rfl, rfl⟩
      · rw [if_pos c] at hT
        have hI := hI c
        obtain ⟨s1, s2, s3⟩ := stm_I1 hI c
        refine r_aload_n (pc := 111) (i := 0) (tX11_texts.at 61 rfl) rfl rfl ?_
        refine r_callV (M' := mX11_sees) (pc := 112) (tX11_texts.at 62 rfl) ml_X11_83 rfl mw_X11_sees ⟨by decide, by decide⟩ (mH_0) rfl rfl (c_mSees hX.1) rfl rfl (Nat.le_of_ble_eq_true rfl) (Nat.le_of_ble_eq_true rfl) (Nat.le_of_ble_eq_true rfl) ?_
        rintro _ _ _ ⟨rfl, rfl, rfl⟩
        refine r_iconst (pc := 115) (w := zI (-1)) (tX11_texts.at 63 rfl) (by decide) ?_
        refine r_icmp_eqZ (pc := 116) 126 (tX11_texts.at 64 rfl) (by decide) ⟨by omega, by omega⟩ ⟨by omega, by omega⟩ (fun q => ?_) (fun q => ?_)
        · rw [if_pos q] at hT
          refine r_vret (pc := 126) (tX11_texts.at 68 rfl) rfl (Nat.le_of_ble_eq_true rfl) (Nat.le_of_ble_eq_true rfl) ?_
          subst hPo
          rw [← hT]
          exact ⟨rfl, rfl, rfl⟩
        · rw [if_neg q] at hT
          have eX : X.see.stm = X.stm := stm_see hX.1
          refine r_aload_n (pc := 119) (i := 0) (tX11_texts.at 65 rfl) rfl rfl ?_
          refine r_callV (M' := mX11_statement) (pc := 120) (tX11_texts.at 66 rfl) ml_X11_187 rfl mw_X11_statement ⟨by decide, by decide⟩ (mH_0) rfl rfl (c_mStat (S := X.see) hI.see c) rfl rfl (Nat.le_of_ble_eq_true rfl) (Nat.le_of_ble_eq_true rfl) (Nat.le_of_ble_eq_true rfl) ?_
          rintro _ _ _ ⟨rfl, rfl, rfl⟩
          rw [eX]
          refine r_goto (pc := 123) 104 (tX11_texts.at 67 rfl) (by decide) ?_
          by_cases c2 : X.stm.err = 0
          · refine ih _ _ ⟨s1.1.1, s1.1.2⟩ (fun _ => s1) ?_ hT
            have h1 := s3 c2
            have h2 : X.stm.siz = X.siz := s2.1.1.2.2.2.2.1
            have h3 := s1.1.1.2.1
            omega
          · rcases f with _ | f
            · refine (?_ : J _ _ _ _ _ _ _ _ _ _ _ _)
              refine r_aload_n (pc := 104) (i := 0) (tX11_texts.at 58 rfl) rfl rfl ?_
              refine r_get (pc := 105) (tX11_texts.at 59 rfl) gf_X11_71 (mH_0) rfl ?_
              refine r_eq rfl (st2 := [.int (zI X.stm.err)]) rfl ?_
              refine r_err1 (pc := 108) 126 (tX11_texts.at 60 rfl) (by decide) s1.1.2 (fun _ => ?_) (fun z => absurd z c2)
              refine r_vret (pc := 126) (tX11_texts.at 68 rfl) rfl (Nat.le_of_ble_eq_true rfl) (Nat.le_of_ble_eq_true rfl) ?_
              subst hPo
              rw [← hT]
              exact ⟨rfl, rfl, rfl⟩
            · rw [txL, if_neg c2] at hT
              refine r_aload_n (pc := 104) (i := 0) (tX11_texts.at 58 rfl) rfl rfl ?_
              refine r_get (pc := 105) (tX11_texts.at 59 rfl) gf_X11_71 (mH_0) rfl ?_
              refine r_eq rfl (st2 := [.int (zI X.stm.err)]) rfl ?_
              refine r_err1 (pc := 108) 126 (tX11_texts.at 60 rfl) (by decide) s1.1.2 (fun _ => ?_) (fun z => absurd z c2)
              refine r_vret (pc := 126) (tX11_texts.at 68 rfl) rfl (Nat.le_of_ble_eq_true rfl) (Nat.le_of_ble_eq_true rfl) ?_
              subst hPo
              rw [← hT]
              exact ⟨rfl, rfl, rfl⟩
  -- behind the fields
  have part2 : ∀ o1, J v mX11_texts (rmOf 24 0 0) (KM v Po noX 0 0) top 0 0 (mH v h m S.tx0) top 66 [some (.ref m), o1] [] := by
    intro o1
    have walk : ∀ X, X = S.tx1 → J v mX11_texts (rmOf 24 0 0) (KM v Po noX 0 0) top 0 0 (mH v h m X) top 85 [some (.ref m), o1] [] := by
      intro X hX
      rw [hX]
      refine r_aload_n (pc := 85) (i := 0) (tX11_texts.at 47 rfl) rfl rfl ?_
      refine r_get (pc := 86) (tX11_texts.at 48 rfl) gf_X11_13 (mH_0) rfl ?_
      refine r_iconst (pc := 89) (w := nI 0) (tX11_texts.at 49 rfl) (by decide) ?_
      refine r_aload_n (pc := 90) (i := 0) (tX11_texts.at 50 rfl) rfl rfl ?_
      refine r_iconst (pc := 91) (w := zI 2) (tX11_texts.at 51 rfl) (by decide) ?_
      refine r_bipush (pc := 92) (w := zI 6) (tX11_texts.at 52 rfl) (by decide) ?_
      refine r_callV (M' := mX11_reads) (pc := 94) (tX11_texts.at 53 rfl) ml_X11_137 rfl mw_X11_reads ⟨by decide, by decide⟩ (mH_0) rfl rfl (c_mReads ok1 (a1.2.2.2 in0) ⟨by omega, by omega⟩ ⟨by omega, by omega⟩) rfl rfl (Nat.le_of_ble_eq_true rfl) (Nat.le_of_ble_eq_true rfl) (Nat.le_of_ble_eq_true rfl) ?_
      rintro _ _ _ ⟨rfl, rfl, rfl⟩
      refine r_iast (pc := 97) (tX11_texts.at 54 rfl) (mH_red) (0) (rfl) (by omega) (Nat.le_of_ble_eq_true rfl) ?_
      rw [upd_iF, mH_sred]
      refine r_eq (h2 := mH v h m S.tx2) rfl rfl ?_
      refine r_aload_n (pc := 98) (i := 0) (tX11_texts.at 55 rfl) rfl rfl ?_
      refine r_bipush (pc := 99) (w := nI 59) (tX11_texts.at 56 rfl) (by decide) ?_
      refine r_callV (M' := mX11_wants) (pc := 101) (tX11_texts.at 57 rfl) ml_X11_133 rfl mw_X11_wants ⟨by decide, by decide⟩ (mH_0) rfl rfl (c_mWants ok2 (a2.2.2.2 in0) (by omega)) rfl rfl (Nat.le_of_ble_eq_true rfl) (Nat.le_of_ble_eq_true rfl) (Nat.le_of_ble_eq_true rfl) ?_
      rintro _ _ _ ⟨rfl, rfl, rfl⟩
      refine r_eq (h2 := mH v h m S.tx3) rfl rfl ?_
      exact k3 601 S.tx3 _ ⟨ok3, a3.2.2.2 in0⟩ (fun z => tx3_I1 hb z) (by have := ok3.1; omega) rfl
    refine r_aload_n (pc := 66) (i := 0) (tX11_texts.at 38 rfl) rfl rfl ?_
    refine r_ldcS 25 (tx := "walk") (pc := 67) (tX11_texts.at 39 rfl) (by decide +kernel) ?_
    refine r_callV (M' := mX11_takes) (pc := 69) (tX11_texts.at 40 rfl) ml_X11_142 rfl mw_X11_takes ⟨by decide, by decide⟩ (mH_0) rfl rfl (c_mTakes (i := 25) ok0 in0 (by decide +kernel)) rfl rfl (Nat.le_of_ble_eq_true rfl) (Nat.le_of_ble_eq_true rfl) (Nat.le_of_ble_eq_true rfl) ?_
    rintro _ _ _ ⟨rfl, rfl, rfl⟩
    cases h1 : S.tx0.tkB 25 with
    | true =>
      rw [Bool.toNat_true]
      refine r_if_neN (pc := 72) 85 (tX11_texts.at 41 rfl) (by decide) (by omega) (fun _ => ?_) (fun c => by omega)
      exact walk _ (by rw [MS.tx1, if_pos h1])
    | false =>
      have at1 := tkS_adv (i := 25) ok0
      rw [Bool.toNat_false]
      refine r_if_neN (pc := 72) 85 (tX11_texts.at 41 rfl) (by decide) (by omega) (fun c => by omega) (fun _ => ?_)
      refine r_aload_n (pc := 75) (i := 0) (tX11_texts.at 42 rfl) rfl rfl ?_
      refine r_bipush (pc := 76) (w := zI (-2)) (tX11_texts.at 43 rfl) (by decide) ?_
      refine r_aload_n (pc := 78) (i := 0) (tX11_texts.at 44 rfl) rfl rfl ?_
      refine r_get (pc := 79) (tX11_texts.at 45 rfl) gf_X11_77 (mH_0) rfl ?_
      refine r_eq rfl (st2 := [.int (nI (S.tx0.tkS 25).nxt), .int (zI (-2)), .ref m]) rfl ?_
      refine r_callV (M' := mX11_fails) (pc := 82) (tX11_texts.at 46 rfl) ml_X11_96 rfl mw_X11_fails ⟨by decide, by decide⟩ (mH_0) rfl rfl (c_mFails (S := S.tx0.tkS 25) (at1.2.2.2 in0)) rfl rfl (Nat.le_of_ble_eq_true rfl) (Nat.le_of_ble_eq_true rfl) (Nat.le_of_ble_eq_true rfl) ?_
      rintro _ _ _ ⟨rfl, rfl, rfl⟩
      exact walk _ (by rw [MS.tx1, if_neg (by rw [h1]; simp)])
  have k2 : ∀ q u F, u + q = 6 → F = zU S.red u → J v mX11_texts (rmOf 24 0 0) (KM v Po noX 0 0) top 0 0 (mH v h m (S.s_red F)) top 24 [some (.ref m), some (.int (nI u))] [] := by
    intro q
    induction q with
    | zero =>
      intro u F hu hF
      have hu : u = 6 := by omega
      subst hu
      refine r_iload_n (pc := 24) (i := 1) (tX11_texts.at 14 rfl) rfl rfl ?_
      refine r_bipush (pc := 25) (w := nI 6) (tX11_texts.at 15 rfl) (by decide) ?_
      refine r_icmp_geN (pc := 27) 46 (tX11_texts.at 16 rfl) (by decide) (by omega) (by omega) (fun _ => ?_) (fun c => by omega)
      subst hF
      refine r_aload_n (pc := 46) (i := 0) (tX11_texts.at 26 rfl) rfl rfl ?_
      refine r_iconst (pc := 47) (w := nI 0) (tX11_texts.at 27 rfl) (by decide) ?_
      refine r_put (pc := 48) (tX11_texts.at 28 rfl) pf_X11_77 (mH_0) (Nat.le_of_ble_eq_true rfl) (rfl) (rfl) ?_
      refine r_eq (h2 := mH v h m ((S.s_red (zU S.red 6)).s_nxt 0)) (mH_p0 (S' := (S.s_red (zU S.red 6)).s_nxt 0) rfl) rfl ?_
      refine r_aload_n (pc := 51) (i := 0) (tX11_texts.at 29 rfl) rfl rfl ?_
      refine r_iconst (pc := 52) (w := nI 0) (tX11_texts.at 30 rfl) (by decide) ?_
      refine r_put (pc := 53) (tX11_texts.at 31 rfl) pf_X11_71 (mH_0) (Nat.le_of_ble_eq_true rfl) (rfl) (rfl) ?_
      refine r_eq (h2 := mH v h m (((S.s_red (zU S.red 6)).s_nxt 0).s_err 0)) (mH_p0 (S' := ((S.s_red (zU S.red 6)).s_nxt 0).s_err 0) rfl) rfl ?_
      refine r_aload_n (pc := 56) (i := 0) (tX11_texts.at 32 rfl) rfl rfl ?_
      refine r_iconst (pc := 57) (w := nI 0) (tX11_texts.at 33 rfl) (by decide) ?_
      refine r_put (pc := 58) (tX11_texts.at 34 rfl) pf_X11_127 (mH_0) (Nat.le_of_ble_eq_true rfl) (rfl) (rfl) ?_
      refine r_eq (h2 := mH v h m ((((S.s_red (zU S.red 6)).s_nxt 0).s_err 0).s_nst 0)) (mH_p0 (S' := (((S.s_red (zU S.red 6)).s_nxt 0).s_err 0).s_nst 0) rfl) rfl ?_
      refine r_aload_n (pc := 61) (i := 0) (tX11_texts.at 35 rfl) rfl rfl ?_
      refine r_iconst (pc := 62) (w := nI 0) (tX11_texts.at 36 rfl) (by decide) ?_
      refine r_put (pc := 63) (tX11_texts.at 37 rfl) pf_X11_181 (mH_0) (Nat.le_of_ble_eq_true rfl) (rfl) (rfl) ?_
      refine r_eq (h2 := mH v h m (S.tx0)) (mH_p0 (S' := S.tx0) rfl) rfl ?_
      exact part2 _
    | succ q ih =>
      intro u F hu hF
      refine r_iload_n (pc := 24) (i := 1) (tX11_texts.at 14 rfl) rfl rfl ?_
      refine r_bipush (pc := 25) (w := nI 6) (tX11_texts.at 15 rfl) (by decide) ?_
      refine r_icmp_geN (pc := 27) 46 (tX11_texts.at 16 rfl) (by decide) (by omega) (by omega) (fun c => by omega) (fun _ => ?_)
      refine r_aload_n (pc := 30) (i := 0) (tX11_texts.at 17 rfl) rfl rfl ?_
      refine r_get (pc := 31) (tX11_texts.at 18 rfl) gf_X11_13 (mH_0) rfl ?_
      refine r_bipush (pc := 34) (w := nI 49) (tX11_texts.at 19 rfl) (by decide) ?_
      refine r_iload_n (pc := 36) (i := 1) (tX11_texts.at 20 rfl) rfl rfl ?_
      first | refine r_iaddN (pc := 37) (tX11_texts.at 21 rfl) ?_ | refine r_iaddZ (pc := 37) (tX11_texts.at 21 rfl) ?_ | refine r_iadd (pc := 37) (tX11_texts.at 21 rfl) ?_
      refine r_iload_n (pc := 38) (i := 1) (tX11_texts.at 22 rfl) rfl rfl ?_
      refine r_iast (pc := 39) (tX11_texts.at 23 rfl) (mH_red) (49 + u) (rfl) (by omega) (Nat.le_of_ble_eq_true rfl) ?_
      rw [upd_iF, mH_sred]
      refine r_eq (h2 := mH v h m (S.s_red (upN F (49 + u) u))) rfl rfl ?_
      first | refine r_iincN (pc := 40) (tX11_texts.at 24 rfl) rfl (by decide) ?_ | refine r_iinc (pc := 40) (tX11_texts.at 24 rfl) rfl rfl (by decide) ?_
      refine r_goto (pc := 43) 24 (tX11_texts.at 25 rfl) (by decide) ?_
      refine ih (u + 1) _ (by omega) ?_
      rw [hF]
      funext k
      unfold upN zU
      by_cases c : k = 49 + u
      · rw [if_pos c, if_pos (by omega)]
        omega
      · rw [if_neg c]
        by_cases c2 : 49 ≤ k ∧ k < 49 + u
        · rw [if_pos c2, if_pos (by omega)]
        · rw [if_neg c2, if_neg (show ¬ (49 ≤ k ∧ k < 49 + (u + 1)) by omega)]
  have k1 : ∀ q u F, u + q = 1240 → F = filF S.red u 0 → J v mX11_texts (rmOf 24 0 0) (KM v Po noX 0 0) top 0 0 (mH v h m (S.s_red F)) top 2 [some (.ref m), some (.int (nI u))] [] := by
    intro q
    induction q with
    | zero =>
      intro u F hu hF
      have hu : u = 1240 := by omega
      subst hu
      refine r_iload_n (pc := 2) (i := 1) (tX11_texts.at 2 rfl) rfl rfl ?_
      refine r_sipush (pc := 3) (w := nI 1240) (tX11_texts.at 3 rfl) (by decide) ?_
      refine r_icmp_geN (pc := 6) 22 (tX11_texts.at 4 rfl) (by decide) (by omega) (by omega) (fun _ => ?_) (fun c => by omega)
      refine r_iconst (pc := 22) (w := nI 0) (tX11_texts.at 12 rfl) (by decide) ?_
      refine r_istore_n (pc := 23) (i := 1) (tX11_texts.at 13 rfl) rfl (by decide) ?_
      refine k2 6 0 F (by omega) ?_
      rw [hF]
      funext k
      unfold filF zU
      rw [if_neg (show ¬ (49 ≤ k ∧ k < 49 + 0) by omega)]
    | succ q ih =>
      intro u F hu hF
      refine r_iload_n (pc := 2) (i := 1) (tX11_texts.at 2 rfl) rfl rfl ?_
      refine r_sipush (pc := 3) (w := nI 1240) (tX11_texts.at 3 rfl) (by decide) ?_
      refine r_icmp_geN (pc := 6) 22 (tX11_texts.at 4 rfl) (by decide) (by omega) (by omega) (fun c => by omega) (fun _ => ?_)
      refine r_aload_n (pc := 9) (i := 0) (tX11_texts.at 5 rfl) rfl rfl ?_
      refine r_get (pc := 10) (tX11_texts.at 6 rfl) gf_X11_13 (mH_0) rfl ?_
      refine r_iload_n (pc := 13) (i := 1) (tX11_texts.at 7 rfl) rfl rfl ?_
      refine r_iconst (pc := 14) (w := nI 0) (tX11_texts.at 8 rfl) (by decide) ?_
      refine r_iast (pc := 15) (tX11_texts.at 9 rfl) (mH_red) (u) (rfl) (by omega) (Nat.le_of_ble_eq_true rfl) ?_
      rw [upd_iF, mH_sred]
      refine r_eq (h2 := mH v h m (S.s_red (upN F u 0))) rfl rfl ?_
      first | refine r_iincN (pc := 16) (tX11_texts.at 10 rfl) rfl (by decide) ?_ | refine r_iinc (pc := 16) (tX11_texts.at 10 rfl) rfl rfl (by decide) ?_
      refine r_goto (pc := 19) 2 (tX11_texts.at 11 rfl) (by decide) ?_
      refine ih (u + 1) _ (by omega) ?_
      rw [hF]
      funext k
      unfold upN filF
      by_cases c : k = u
      · rw [if_pos c, if_pos (by omega)]
      · rw [if_neg c]
        by_cases c2 : k < u
        · rw [if_pos c2, if_pos (by omega)]
        · rw [if_neg c2, if_neg (by omega)]
  refine r_iconst (pc := 0) (w := nI 0) (tX11_texts.at 0 rfl) (by decide) ?_
  refine r_istore_n (pc := 1) (i := 1) (tX11_texts.at 1 rfl) rfl (by decide) ?_
  refine r_eq (h2 := mH v h m (S.s_red S.red)) rfl rfl ?_
  exact k1 1240 0 S.red (by omega) (by rw [filF_0])
end

