/-! ===== the reference: numbers, signs, lines ===== -/
theorem sv_b {S : MS} (ok : okP S) : -1 ≤ S.sv ∧ S.sv ≤ 255 := by
  have := ok.2.2 S.kp
  unfold MS.sv
  split <;> omega
theorem see_sv {S : MS} (ok : okP S) : S.see.sv = S.sv ∧ S.see.see = S.see := by
  have e := ok.see.2
  refine ⟨?_, ?_⟩
  · show (if S.see.kp < S.see.siz then _ else _) = _
    rw [e]
    rfl
  · show S.see.s_nxt S.see.kp = S.see
    rw [e]
    rfl
/-- what a reader leaves alone -/
def per2 (S S' : MS) : Prop := (S'.now = S.now ∧ S'.und = S.und ∧ S'.byt = S.byt ∧ S'.eat = S.eat ∧ S'.siz = S.siz ∧ S'.thr = S.thr) ∧ S'.rws = S.rws ∧ S'.txt = S.txt
theorem per2.refl (S : MS) : per2 S S := ⟨⟨rfl, rfl, rfl, rfl, rfl, rfl⟩, rfl, rfl⟩
theorem per2.trans {A B C : MS} (h : per2 A B) (k : per2 B C) : per2 A C := ⟨⟨k.1.1.trans h.1.1, k.1.2.1.trans h.1.2.1, k.1.2.2.1.trans h.1.2.2.1, k.1.2.2.2.1.trans h.1.2.2.2.1, k.1.2.2.2.2.1.trans h.1.2.2.2.2.1, k.1.2.2.2.2.2.trans h.1.2.2.2.2.2⟩, k.2.1.trans h.2.1, k.2.2.trans h.2.2⟩
/-- a reader goes on in the text and no further than its end -/
def adv (S S' : MS) : Prop := per2 S S' ∧ S.nxt ≤ S'.nxt ∧ S'.nxt ≤ S.siz ∧ (inI S.err → inI S'.err)
theorem adv.ok {S S' : MS} (h : adv S S') (ok : okP S) : okP S' := ⟨by rw [h.1.1.2.2.2.2.1]; exact ok.1, by rw [h.1.1.2.2.2.2.1]; exact h.2.2.1, by rw [h.1.2.2]; exact ok.2.2⟩
theorem adv.trans {A B C : MS} (h : adv A B) (k : adv B C) : adv A C := ⟨h.1.trans k.1, Nat.le_trans h.2.1 k.2.1, by have := k.2.2.1; rw [h.1.1.2.2.2.2.1] at this; exact this, fun z => k.2.2.2 (h.2.2.2 z)⟩
theorem adv.refl {S : MS} (ok : okP S) : adv S S := ⟨per2.refl S, Nat.le_refl _, ok.2.1, fun z => z⟩
theorem adv_see {S : MS} (ok : okP S) : adv S S.see := ⟨⟨⟨rfl, rfl, rfl, rfl, rfl, rfl⟩, rfl, rfl⟩, ok.kp.1, ok.kp.2, fun z => z⟩
theorem fls_adv {S : MS} {c : Int} {a : Nat} (ok : okP S) (hc : inI c) : adv S (S.fls c a) := by
  unfold MS.fls
  split
  · exact ⟨⟨⟨rfl, rfl, rfl, rfl, rfl, rfl⟩, rfl, rfl⟩, Nat.le_refl _, ok.2.1, fun _ => hc⟩
  · exact adv.refl ok
theorem tkS_adv {S : MS} {i : Nat} (ok : okP S) : adv S (S.tkS i) := by
  have h1 := ok.kp
  have h2 := ok.ke
  unfold MS.tkS
  split
  · split
    · exact ⟨⟨⟨rfl, rfl, rfl, rfl, rfl, rfl⟩, rfl, rfl⟩, Nat.le_trans h1.1 h2.1, h2.2, fun z => z⟩
    · exact adv_see ok
  · exact adv.refl ok
theorem sv_lt {S : MS} (ok : okP S) {c : Nat} (h : S.sv = c) : S.kp < S.siz ∧ S.txt S.kp = c := by
  unfold MS.sv at h
  split at h
  · next q => exact ⟨q, by omega⟩
  · omega
theorem wan_adv {S : MS} {c : Nat} (ok : okP S) : adv S (S.wan c) := by
  have h1 := ok.kp
  unfold MS.wan
  split
  · split
    · next q =>
      have h2 := (sv_lt ok q).1
      exact ⟨⟨⟨rfl, rfl, rfl, rfl, rfl, rfl⟩, rfl, rfl⟩, by show S.nxt ≤ S.kp + 1; omega, by show S.kp + 1 ≤ S.siz; omega, fun z => z⟩
    · exact (adv_see ok).trans (fls_adv ok.see.1 ⟨by omega, by omega⟩)
  · exact adv.refl ok
theorem rdK_b {S : MS} (ok : okP S) : S.kp + S.rdK ≤ S.siz := by
  have h1 := ok.kp
  have h2 := dgN_le S.txt S.siz S.kp
  unfold MS.rdK
  omega
theorem rdS_adv {S : MS} {a b : Int} (ok : okP S) : adv S (S.rdS a b) := by
  have h1 := ok.kp
  have h2 := rdK_b ok
  have ok2 : okP ((S.s_beg S.kp).s_nxt (S.kp + S.rdK)) := ⟨ok.1, h2, ok.2.2⟩
  have a2 : adv S ((S.s_beg S.kp).s_nxt (S.kp + S.rdK)) := ⟨⟨⟨rfl, rfl, rfl, rfl, rfl, rfl⟩, rfl, rfl⟩, by show S.nxt ≤ S.kp + S.rdK; omega, h2, fun z => z⟩
  unfold MS.rdS
  split
  · split
    · split
      · exact a2
      · exact a2.trans (fls_adv ok2 ⟨by omega, by omega⟩)
    · exact (adv_see ok).trans (fls_adv ok.see.1 ⟨by omega, by omega⟩)
  · exact adv.refl ok
theorem cod_adv {S : MS} {k w : Nat} (ok : okP S) : adv S (S.cod k w) := by
  unfold MS.cod
  split
  · exact ⟨⟨⟨rfl, rfl, rfl, rfl, rfl, rfl⟩, rfl, rfl⟩, Nat.le_refl _, ok.2.1, fun z => z⟩
  · exact adv.refl ok
section
variable {v : Ev} {h : Hp} {top m : Nat} {S : MS}
theorem c_mIsDig (ok : okP S) : Cal v mX11_isDigit 2 0 0 [.ref m] (mH v h m S) top (pR (.int (nI (Bool.toNat S.dgB))) (mH v h m S.see) top) noX := by
  obtain ⟨b1, b2⟩ := sv_b ok
  obtain ⟨e1, e2⟩ := see_sv ok
  refine Cal.ofJ (by decide +kernel) rfl (Nat.le_of_ble_eq_true rfl) fun hz0 => ?_
  refine r_ls [some (.ref m)] rfl ?_
  generalize hPo : pR (.int (nI (Bool.toNat S.dgB))) (mH v h m S.see) top = Po
  have fin : ∀ b : Bool, b = S.dgB → Po (some (.int (nI (Bool.toNat b)))) (mH v h m S.see) top := by
    intro b hb
    subst hPo
    exact ⟨by rw [hb], rfl, rfl⟩
  refine r_aload_n (pc := 0) (i := 0) (tX11_isDigit.at 0 rfl) rfl rfl ?_
  refine r_callV (M' := mX11_sees) (pc := 1) (tX11_isDigit.at 1 rfl) ml_X11_83 rfl mw_X11_sees ⟨by decide, by decide⟩ (mH_0) rfl rfl (c_mSees ok) rfl rfl (Nat.le_of_ble_eq_true rfl) (Nat.le_of_ble_eq_true rfl) (Nat.le_of_ble_eq_true rfl) ?_
  rintro _ _ _ ⟨rfl, rfl, rfl⟩
  refine r_bipush (pc := 4) (w := zI 48) (tX11_isDigit.at 2 rfl) (by decide) ?_
  refine r_icmp_ltZ (pc := 6) 22 (tX11_isDigit.at 3 rfl) (by decide) ⟨by omega, by omega⟩ ⟨by omega, by omega⟩ (fun c => ?_) (fun c => ?_)
  · refine r_iconst (pc := 22) (w := nI (Bool.toNat false)) (tX11_isDigit.at 10 rfl) (by decide) ?_
    refine r_zret (pc := 23) (tX11_isDigit.at 11 rfl) rfl (tbNar _) (Nat.le_of_ble_eq_true rfl) (Nat.le_of_ble_eq_true rfl) ?_
    exact fin false (decide_eq_false (by omega)).symm
  · refine r_aload_n (pc := 9) (i := 0) (tX11_isDigit.at 4 rfl) rfl rfl ?_
    refine r_callV (M' := mX11_sees) (pc := 10) (tX11_isDigit.at 5 rfl) ml_X11_83 rfl mw_X11_sees ⟨by decide, by decide⟩ (mH_0) rfl rfl (c_mSees (S := S.see) ok.see.1) rfl rfl (Nat.le_of_ble_eq_true rfl) (Nat.le_of_ble_eq_true rfl) (Nat.le_of_ble_eq_true rfl) ?_
    rintro _ _ _ ⟨rfl, rfl, rfl⟩
    rw [e1, e2]
    refine r_bipush (pc := 13) (w := zI 57) (tX11_isDigit.at 6 rfl) (by decide) ?_
    refine r_icmp_gtZ (pc := 15) 22 (tX11_isDigit.at 7 rfl) (by decide) ⟨by omega, by omega⟩ ⟨by omega, by omega⟩ (fun c2 => ?_) (fun c2 => ?_)
    · refine r_iconst (pc := 22) (w := nI (Bool.toNat false)) (tX11_isDigit.at 10 rfl) (by decide) ?_
      refine r_zret (pc := 23) (tX11_isDigit.at 11 rfl) rfl (tbNar _) (Nat.le_of_ble_eq_true rfl) (Nat.le_of_ble_eq_true rfl) ?_
      exact fin false (decide_eq_false (by omega)).symm
    · refine r_iconst (pc := 18) (w := nI (Bool.toNat true)) (tX11_isDigit.at 8 rfl) (by decide) ?_
      refine r_goto (pc := 19) 23 (tX11_isDigit.at 9 rfl) (by decide) ?_
      refine r_zret (pc := 23) (tX11_isDigit.at 11 rfl) rfl (tbNar _) (Nat.le_of_ble_eq_true rfl) (Nat.le_of_ble_eq_true rfl) ?_
      exact fin true (decide_eq_true (by omega)).symm
theorem c_mWants {c : Nat} (ok : okP S) (he : inI S.err) (hc : c < 256) : Cal v mX11_wants 2 0 0 [.ref m, .int (nI c)] (mH v h m S) top (pV (mH v h m (S.wan c)) top) noX := by
  obtain ⟨b1, b2⟩ := sv_b ok
  have h1 := ok.kp
  refine Cal.ofJ (by decide +kernel) rfl (Nat.le_of_ble_eq_true rfl) fun hz0 => ?_
  refine r_ls [some (.ref m), some (.int (nI c))] rfl ?_
  generalize hPo : pV (mH v h m (S.wan c)) top = Po
  refine r_aload_n (pc := 0) (i := 0) (tX11_wants.at 0 rfl) rfl rfl ?_
  refine r_get (pc := 1) (tX11_wants.at 1 rfl) gf_X11_71 (mH_0) rfl ?_
  refine r_eq rfl (st2 := [.int (zI S.err)]) rfl ?_
  refine r_err0 (pc := 4) 8 (tX11_wants.at 2 rfl) (by decide) he (fun c0 => ?_) (fun c0 => ?_)
  · refine r_aload_n (pc := 8) (i := 0) (tX11_wants.at 4 rfl) rfl rfl ?_
    refine r_callV (M' := mX11_sees) (pc := 9) (tX11_wants.at 5 rfl) ml_X11_83 rfl mw_X11_sees ⟨by decide, by decide⟩ (mH_0) rfl rfl (c_mSees ok) rfl rfl (Nat.le_of_ble_eq_true rfl) (Nat.le_of_ble_eq_true rfl) (Nat.le_of_ble_eq_true rfl) ?_
    rintro _ _ _ ⟨rfl, rfl, rfl⟩
    refine r_iload_n (pc := 12) (i := 1) (tX11_wants.at 6 rfl) rfl rfl ?_
    rw [← zI_nat c]
    refine r_icmp_eqZ (pc := 13) 29 (tX11_wants.at 7 rfl) (by decide) ⟨by omega, by omega⟩ ⟨by omega, by omega⟩ (fun q => ?_) (fun q => ?_)
    · refine r_aload_n (pc := 29) (i := 0) (tX11_wants.at 14 rfl) rfl rfl ?_
      refine r_dup (pc := 30) (tX11_wants.at 15 rfl) rfl ?_
      refine r_get (pc := 31) (tX11_wants.at 16 rfl) gf_X11_77 (mH_0) rfl ?_
      refine r_eq rfl (st2 := [.int (nI S.kp), .ref m]) rfl ?_
      refine r_iconst (pc := 34) (w := nI 1) (tX11_wants.at 17 rfl) (by decide) ?_
      first | refine r_iaddN (pc := 35) (tX11_wants.at 18 rfl) ?_ | refine r_iaddZ (pc := 35) (tX11_wants.at 18 rfl) ?_ | refine r_iadd (pc := 35) (tX11_wants.at 18 rfl) ?_
      refine r_put (pc := 36) (tX11_wants.at 19 rfl) pf_X11_77 (mH_0) (Nat.le_of_ble_eq_true rfl) (rfl) (rfl) ?_
      refine r_eq (h2 := mH v h m (S.s_nxt (S.kp + 1))) (mH_p0 (S' := S.s_nxt (S.kp + 1)) rfl) rfl ?_
      refine r_vret (pc := 39) (tX11_wants.at 20 rfl) rfl (Nat.le_of_ble_eq_true rfl) (Nat.le_of_ble_eq_true rfl) ?_
      subst hPo
      rw [MS.wan, if_pos c0, if_pos q]
      exact ⟨rfl, rfl, rfl⟩
    · refine r_aload_n (pc := 16) (i := 0) (tX11_wants.at 8 rfl) rfl rfl ?_
      refine r_bipush (pc := 17) (w := zI (-2)) (tX11_wants.at 9 rfl) (by decide) ?_
      refine r_aload_n (pc := 19) (i := 0) (tX11_wants.at 10 rfl) rfl rfl ?_
      refine r_get (pc := 20) (tX11_wants.at 11 rfl) gf_X11_77 (mH_0) rfl ?_
      refine r_eq rfl (st2 := [.int (nI S.kp), .int (zI (-2)), .ref m]) rfl ?_
      refine r_callV (M' := mX11_fails) (pc := 23) (tX11_wants.at 12 rfl) ml_X11_96 rfl mw_X11_fails ⟨by decide, by decide⟩ (mH_0) rfl rfl (c_mFails (S := S.see) he) rfl rfl (Nat.le_of_ble_eq_true rfl) (Nat.le_of_ble_eq_true rfl) (Nat.le_of_ble_eq_true rfl) ?_
      rintro _ _ _ ⟨rfl, rfl, rfl⟩
      refine r_goto (pc := 26) 39 (tX11_wants.at 13 rfl) (by decide) ?_
      refine r_vret (pc := 39) (tX11_wants.at 20 rfl) rfl (Nat.le_of_ble_eq_true rfl) (Nat.le_of_ble_eq_true rfl) ?_
      subst hPo
      rw [MS.wan, if_pos c0, if_neg q]
      exact ⟨rfl, rfl, rfl⟩
  · refine r_vret (pc := 7) (tX11_wants.at 3 rfl) rfl (Nat.le_of_ble_eq_true rfl) (Nat.le_of_ble_eq_true rfl) ?_
    subst hPo
    rw [MS.wan, if_neg c0]
    exact ⟨rfl, rfl, rfl⟩
theorem dgN_pos {b : Nat → Nat} {len a : Nat} (h1 : a < len) (h2 : isDg (b a) = true) : 0 < dgN b len a := by
  obtain ⟨f1, f2, f3⟩ := fstN_spec (fun j => !isDg (b (a + j))) (len - a)
  unfold dgN
  rcases Nat.eq_zero_or_pos (fstN (fun j => !isDg (b (a + j))) (len - a)) with q | q
  · have := f3 (by omega)
    rw [q, Nat.add_zero, h2] at this
    cases this
  · exact q
theorem c_mReads {a b : Int} (ok : okP S) (he : inI S.err) (ha : inI a) (hb : inI b) : Cal v mX11_reads 3 0 0 [.ref m, .int (zI a), .int (zI b)] (mH v h m S) top (pR (.int (nI (S.rdR a b))) (mH v h m (S.rdS a b)) top) noX := by
  have h1 := ok.kp
  have h2 := rdK_b ok
  obtain ⟨o1, o2, o3⟩ := ok
  have ok : okP S := ⟨o1, o2, o3⟩
  obtain ⟨a1, a2⟩ := ha
  obtain ⟨b1, b2⟩ := hb
  refine Cal.ofJ (by decide +kernel) rfl (Nat.le_of_ble_eq_true rfl) fun hz0 => ?_
  refine r_ls [some (.ref m), some (.int (zI a)), some (.int (zI b)), none] rfl ?_
  generalize hPo : pR (.int (nI (S.rdR a b))) (mH v h m (S.rdS a b)) top = Po
  refine r_aload_n (pc := 0) (i := 0) (tX11_reads.at 0 rfl) rfl rfl ?_
  refine r_get (pc := 1) (tX11_reads.at 1 rfl) gf_X11_71 (mH_0) rfl ?_
  refine r_eq rfl (st2 := [.int (zI S.err)]) rfl ?_
  refine r_err0 (pc := 4) 9 (tX11_reads.at 2 rfl) (by decide) he (fun c0 => ?_) (fun c0 => ?_)
  · refine r_aload_n (pc := 9) (i := 0) (tX11_reads.at 5 rfl) rfl rfl ?_
    refine r_callV (M' := mX11_isDigit) (pc := 10) (tX11_reads.at 6 rfl) ml_X11_100 rfl mw_X11_isDigit ⟨by decide, by decide⟩ (mH_0) rfl rfl (c_mIsDig ok) rfl rfl (Nat.le_of_ble_eq_true rfl) (Nat.le_of_ble_eq_true rfl) (Nat.le_of_ble_eq_true rfl) ?_
    rintro _ _ _ ⟨rfl, rfl, rfl⟩
    cases hd : S.dgB with
    | false =>
      rw [Bool.toNat_false]
      refine r_if_neN (pc := 13) 28 (tX11_reads.at 7 rfl) (by decide) (by omega) (fun c => by omega) (fun _ => ?_)
      refine r_aload_n (pc := 16) (i := 0) (tX11_reads.at 8 rfl) rfl rfl ?_
      refine r_bipush (pc := 17) (w := zI (-2)) (tX11_reads.at 9 rfl) (by decide) ?_
      refine r_aload_n (pc := 19) (i := 0) (tX11_reads.at 10 rfl) rfl rfl ?_
      refine r_get (pc := 20) (tX11_reads.at 11 rfl) gf_X11_77 (mH_0) rfl ?_
      refine r_eq rfl (st2 := [.int (nI S.kp), .int (zI (-2)), .ref m]) rfl ?_
      refine r_callV (M' := mX11_fails) (pc := 23) (tX11_reads.at 12 rfl) ml_X11_96 rfl mw_X11_fails ⟨by decide, by decide⟩ (mH_0) rfl rfl (c_mFails (S := S.see) he) rfl rfl (Nat.le_of_ble_eq_true rfl) (Nat.le_of_ble_eq_true rfl) (Nat.le_of_ble_eq_true rfl) ?_
      rintro _ _ _ ⟨rfl, rfl, rfl⟩
      refine r_iconst (pc := 26) (w := nI 0) (tX11_reads.at 13 rfl) (by decide) ?_
      refine r_iret (pc := 27) (tX11_reads.at 14 rfl) rfl (Nat.le_of_ble_eq_true rfl) (Nat.le_of_ble_eq_true rfl) ?_
      subst hPo
      rw [MS.rdR, if_neg (fun z => by rw [hd] at z; cases z.2.1), MS.rdS, if_pos c0, if_neg (by rw [hd]; simp)]
      exact ⟨rfl, rfl, rfl⟩
    | true =>
      rw [Bool.toNat_true]
      refine r_if_neN (pc := 13) 28 (tX11_reads.at 7 rfl) (by decide) (by omega) (fun _ => ?_) (fun c => by omega)
      refine r_aload_n (pc := 28) (i := 0) (tX11_reads.at 15 rfl) rfl rfl ?_
      refine r_aload_n (pc := 29) (i := 0) (tX11_reads.at 16 rfl) rfl rfl ?_
      refine r_get (pc := 30) (tX11_reads.at 17 rfl) gf_X11_77 (mH_0) rfl ?_
      refine r_eq rfl (st2 := [.int (nI S.kp), .ref m]) rfl ?_
      refine r_put (pc := 33) (tX11_reads.at 18 rfl) pf_X11_104 (mH_0) (Nat.le_of_ble_eq_true rfl) (rfl) (rfl) ?_
      refine r_iconst (pc := 36) (w := nI 0) (tX11_reads.at 19 rfl) (by decide) ?_
      refine r_istore_n (pc := 37) (i := 3) (tX11_reads.at 20 rfl) rfl (by decide) ?_
      refine r_eq (h2 := mH v h m (S.see.s_beg S.kp)) (mH_p0 (S' := S.see.s_beg S.kp) rfl) rfl ?_
      -- behind the digits
      have part2 : J v mX11_reads (rmOf 3 0 0) (KM v Po noX 0 0) top 0 0 (mH v h m ((S.s_beg S.kp).s_nxt (S.kp + S.rdK))) top 113 [some (.ref m), some (.int (zI a)), some (.int (zI b)), some (.int (nI S.rdV))] [] := by
        have hv := numR_le S.txt S.kp S.rdK
        have hv : S.rdV ≤ 1000000 := hv
        refine r_iload_n (pc := 113) (i := 3) (tX11_reads.at 61 rfl) rfl rfl ?_
        refine r_i2lN (pc := 114) (tX11_reads.at 62 rfl) (by omega) ?_
        refine r_iload_n (pc := 115) (i := 1) (tX11_reads.at 63 rfl) rfl rfl ?_
        refine r_i2lZ (pc := 116) (tX11_reads.at 64 rfl) ⟨by omega, by omega⟩ ?_
        refine r_iload_n (pc := 117) (i := 2) (tX11_reads.at 65 rfl) rfl rfl ?_
        refine r_i2lZ (pc := 118) (tX11_reads.at 66 rfl) ⟨by omega, by omega⟩ ?_
        refine r_callS (M' := mX11_isIn) (pc := 119) (tX11_reads.at 67 rfl) ml_X11_114 rfl mw_X11_isIn ⟨by decide, by decide⟩ (c_mIsIn ⟨by omega, by omega⟩ ⟨by omega, by omega⟩ ⟨by omega, by omega⟩) rfl rfl (Nat.le_of_ble_eq_true rfl) (Nat.le_of_ble_eq_true rfl) (Nat.le_of_ble_eq_true rfl) ?_
        rintro _ _ _ ⟨rfl, rfl, rfl⟩
        by_cases q : a ≤ S.rdV ∧ (S.rdV : Int) ≤ b
        · rw [show inB (S.rdV : Nat) a b = true from decide_eq_true q, Bool.toNat_true]
          refine r_if_neN (pc := 122) 135 (tX11_reads.at 68 rfl) (by decide) (by omega) (fun _ => ?_) (fun c => by omega)
          refine r_aload_n (pc := 135) (i := 0) (tX11_reads.at 74 rfl) rfl rfl ?_
          refine r_get (pc := 136) (tX11_reads.at 75 rfl) gf_X11_71 (mH_0) rfl ?_
          refine r_eq rfl (st2 := [.int (zI S.err)]) rfl ?_
          refine r_err1 (pc := 139) 146 (tX11_reads.at 76 rfl) (by decide) he (fun z => absurd c0 z) (fun _ => ?_)
          refine r_iload_n (pc := 142) (i := 3) (tX11_reads.at 77 rfl) rfl rfl ?_
          refine r_goto (pc := 143) 147 (tX11_reads.at 78 rfl) (by decide) ?_
          refine r_iret (pc := 147) (tX11_reads.at 80 rfl) rfl (Nat.le_of_ble_eq_true rfl) (Nat.le_of_ble_eq_true rfl) ?_
          subst hPo
          rw [MS.rdR, if_pos ⟨c0, hd, q⟩, MS.rdS, if_pos c0, if_pos hd, if_pos q]
          exact ⟨rfl, rfl, rfl⟩
        · rw [show inB (S.rdV : Nat) a b = false from decide_eq_false q, Bool.toNat_false]
          refine r_if_neN (pc := 122) 135 (tX11_reads.at 68 rfl) (by decide) (by omega) (fun c => by omega) (fun _ => ?_)
          refine r_aload_n (pc := 125) (i := 0) (tX11_reads.at 69 rfl) rfl rfl ?_
          refine r_bipush (pc := 126) (w := zI (-3)) (tX11_reads.at 70 rfl) (by decide) ?_
          refine r_aload_n (pc := 128) (i := 0) (tX11_reads.at 71 rfl) rfl rfl ?_
          refine r_get (pc := 129) (tX11_reads.at 72 rfl) gf_X11_104 (mH_0) rfl ?_
          refine r_eq rfl (st2 := [.int (nI S.kp), .int (zI (-3)), .ref m]) rfl ?_
          refine r_callV (M' := mX11_fails) (pc := 132) (tX11_reads.at 73 rfl) ml_X11_96 rfl mw_X11_fails ⟨by decide, by decide⟩ (mH_0) rfl rfl (c_mFails (S := (S.s_beg S.kp).s_nxt (S.kp + S.rdK)) he) rfl rfl (Nat.le_of_ble_eq_true rfl) (Nat.le_of_ble_eq_true rfl) (Nat.le_of_ble_eq_true rfl) ?_
          rintro _ _ _ ⟨rfl, rfl, rfl⟩
          have ef : ((S.s_beg S.kp).s_nxt (S.kp + S.rdK)).fls (-3) S.kp = (((S.s_beg S.kp).s_nxt (S.kp + S.rdK)).s_err (-3)).s_plc S.kp := if_pos c0
          rw [ef]
          refine r_aload_n (pc := 135) (i := 0) (tX11_reads.at 74 rfl) rfl rfl ?_
          refine r_get (pc := 136) (tX11_reads.at 75 rfl) gf_X11_71 (mH_0) rfl ?_
          refine r_eq rfl (st2 := [.int (zI (-3))]) rfl ?_
          refine r_err1 (pc := 139) 146 (tX11_reads.at 76 rfl) (by decide) ⟨by omega, by omega⟩ (fun z => ?_) (fun z => by omega)
          refine r_iconst (pc := 146) (w := nI 0) (tX11_reads.at 79 rfl) (by decide) ?_
          refine r_iret (pc := 147) (tX11_reads.at 80 rfl) rfl (Nat.le_of_ble_eq_true rfl) (Nat.le_of_ble_eq_true rfl) ?_
          subst hPo
          rw [MS.rdR, if_neg (fun z => q z.2.2), MS.rdS, if_pos c0, if_pos hd, if_neg q, ef]
          exact ⟨rfl, rfl, rfl⟩
      have stop : ∀ k, S.kp + k ≤ S.siz → (∀ j, j < k → isDg (S.txt (S.kp + j)) = true) → (S.kp + k = S.siz ∨ isDg (S.txt (S.kp + k)) = false) → S.rdK = k := by
        intro k g1 g2 g3
        unfold MS.rdK dgN
        refine fstN_is (by omega) (fun j hj => by rw [g2 j hj]; rfl) ?_
        rcases g3 with g3 | g3
        · exact Or.inl (by omega)
        · right
          rw [g3]
          rfl
      have digits : ∀ q k, S.kp + k + q = S.siz → (∀ j, j < k → isDg (S.txt (S.kp + j)) = true) → J v mX11_reads (rmOf 3 0 0) (KM v Po noX 0 0) top 0 0 (mH v h m ((S.s_beg S.kp).s_nxt (S.kp + k))) top 38 [some (.ref m), some (.int (zI a)), some (.int (zI b)), some (.int (nI (numR S.txt S.kp k)))] [] := by
        intro q
        induction q with
        | zero =>
          intro k hk hj
          have ek := stop k (by omega) hj (Or.inl (by omega))
          refine r_aload_n (pc := 38) (i := 0) (tX11_reads.at 21 rfl) rfl rfl ?_
          refine r_get (pc := 39) (tX11_reads.at 22 rfl) gf_X11_77 (mH_0) rfl ?_
          refine r_aload_n (pc := 42) (i := 0) (tX11_reads.at 23 rfl) rfl rfl ?_
          refine r_get (pc := 43) (tX11_reads.at 24 rfl) gf_X11_80 (mH_0) rfl ?_
          refine r_eq rfl (st2 := [.int (nI S.siz), .int (nI (S.kp + k))]) rfl ?_
          refine r_icmp_geN (pc := 46) 113 (tX11_reads.at 25 rfl) (by decide) (by omega) (by omega) (fun _ => ?_) (fun c => by omega)
          unfold MS.rdV at part2
          rw [ek] at part2
          exact part2
        | succ q ih =>
          intro k hk hj
          have h3 := o3 (S.kp + k)
          have hv := numR_le S.txt S.kp k
          have out : isDg (S.txt (S.kp + k)) = false → J v mX11_reads (rmOf 3 0 0) (KM v Po noX 0 0) top 0 0 (mH v h m ((S.s_beg S.kp).s_nxt (S.kp + k))) top 113 [some (.ref m), some (.int (zI a)), some (.int (zI b)), some (.int (nI (numR S.txt S.kp k)))] [] := by
            intro q2
            have ek := stop k (by omega) hj (Or.inr q2)
            unfold MS.rdV at part2
            rw [ek] at part2
            exact part2
          refine r_aload_n (pc := 38) (i := 0) (tX11_reads.at 21 rfl) rfl rfl ?_
          refine r_get (pc := 39) (tX11_reads.at 22 rfl) gf_X11_77 (mH_0) rfl ?_
          refine r_aload_n (pc := 42) (i := 0) (tX11_reads.at 23 rfl) rfl rfl ?_
          refine r_get (pc := 43) (tX11_reads.at 24 rfl) gf_X11_80 (mH_0) rfl ?_
          refine r_eq rfl (st2 := [.int (nI S.siz), .int (nI (S.kp + k))]) rfl ?_
          refine r_icmp_geN (pc := 46) 113 (tX11_reads.at 25 rfl) (by decide) (by omega) (by omega) (fun c => by omega) (fun _ => ?_)
          refine r_aload_n (pc := 49) (i := 0) (tX11_reads.at 26 rfl) rfl rfl ?_
          refine r_get (pc := 50) (tX11_reads.at 27 rfl) gf_X11_16 (mH_0) rfl ?_
          refine r_aload_n (pc := 53) (i := 0) (tX11_reads.at 28 rfl) rfl rfl ?_
          refine r_get (pc := 54) (tX11_reads.at 29 rfl) gf_X11_77 (mH_0) rfl ?_
          refine r_eq rfl (st2 := [.int (nI (S.kp + k)), .ref (m + 3)]) rfl ?_
          refine r_iald (pc := 57) (tX11_reads.at 30 rfl) (mH_txt) (S.kp + k) (rfl) (by omega) (Nat.le_of_ble_eq_true rfl) ?_
          refine r_bipush (pc := 58) (w := nI 48) (tX11_reads.at 31 rfl) (by decide) ?_
          refine r_eq rfl (st2 := [.int (nI 48), .int (nI (S.txt (S.kp + k)))]) rfl ?_
          refine r_icmp_ltN (pc := 60) 113 (tX11_reads.at 32 rfl) (by decide) (by omega) (by omega) (fun c1 => ?_) (fun c1 => ?_)
          · exact out (decide_eq_false (by omega))
          · refine r_aload_n (pc := 63) (i := 0) (tX11_reads.at 33 rfl) rfl rfl ?_
            refine r_get (pc := 64) (tX11_reads.at 34 rfl) gf_X11_16 (mH_0) rfl ?_
            refine r_aload_n (pc := 67) (i := 0) (tX11_reads.at 35 rfl) rfl rfl ?_
            refine r_get (pc := 68) (tX11_reads.at 36 rfl) gf_X11_77 (mH_0) rfl ?_
            refine r_eq rfl (st2 := [.int (nI (S.kp + k)), .ref (m + 3)]) rfl ?_
            refine r_iald (pc := 71) (tX11_reads.at 37 rfl) (mH_txt) (S.kp + k) (rfl) (by omega) (Nat.le_of_ble_eq_true rfl) ?_
            refine r_bipush (pc := 72) (w := nI 57) (tX11_reads.at 38 rfl) (by decide) ?_
            refine r_eq rfl (st2 := [.int (nI 57), .int (nI (S.txt (S.kp + k)))]) rfl ?_
            refine r_icmp_gtN (pc := 74) 113 (tX11_reads.at 39 rfl) (by decide) (by omega) (by omega) (fun c2 => ?_) (fun c2 => ?_)
            · exact out (decide_eq_false (by omega))
            · refine r_ldcI (pc := 77) (tX11_reads.at 40 rfl) ic_X11_107 ?_
              refine r_bipush (pc := 79) (w := nI 10) (tX11_reads.at 41 rfl) (by decide) ?_
              refine r_iload_n (pc := 81) (i := 3) (tX11_reads.at 42 rfl) rfl rfl ?_
              first | refine r_imulN (pc := 82) (tX11_reads.at 43 rfl) ?_ | refine r_imulZ (pc := 82) (tX11_reads.at 43 rfl) ?_ | refine r_imul (pc := 82) (tX11_reads.at 43 rfl) ?_
              refine r_aload_n (pc := 83) (i := 0) (tX11_reads.at 44 rfl) rfl rfl ?_
              refine r_get (pc := 84) (tX11_reads.at 45 rfl) gf_X11_16 (mH_0) rfl ?_
              refine r_aload_n (pc := 87) (i := 0) (tX11_reads.at 46 rfl) rfl rfl ?_
              refine r_get (pc := 88) (tX11_reads.at 47 rfl) gf_X11_77 (mH_0) rfl ?_
              refine r_eq rfl (st2 := [.int (nI (S.kp + k)), .ref (m + 3), .int (nI (10 * numR S.txt S.kp k)), .int (nI 1000000)]) rfl ?_
              refine r_iald (pc := 91) (tX11_reads.at 48 rfl) (mH_txt) (S.kp + k) (rfl) (by omega) (Nat.le_of_ble_eq_true rfl) ?_
              refine r_eq rfl (st2 := [.int (nI (S.txt (S.kp + k))), .int (nI (10 * numR S.txt S.kp k)), .int (nI 1000000)]) rfl ?_
              refine r_iaddN (pc := 92) (tX11_reads.at 49 rfl) ?_
              refine r_bipush (pc := 93) (w := nI 48) (tX11_reads.at 50 rfl) (by decide) ?_
              refine r_isubN (pc := 95) (tX11_reads.at 51 rfl) (by omega) ?_
              first | refine r_mminN (pc := 96) (tX11_reads.at 52 rfl) ml_X11_108 mw_min_s mw_math mw_min_c (Nat.le_of_ble_eq_true rfl) (Nat.le_of_ble_eq_true rfl) (Nat.le_of_ble_eq_true rfl) (Nat.le_of_ble_eq_true rfl) (by omega) (by omega) ?_ | refine r_mminZ (pc := 96) (tX11_reads.at 52 rfl) ml_X11_108 mw_min_s mw_math mw_min_c (Nat.le_of_ble_eq_true rfl) (Nat.le_of_ble_eq_true rfl) (Nat.le_of_ble_eq_true rfl) (Nat.le_of_ble_eq_true rfl) ⟨by omega, by omega⟩ ⟨by omega, by omega⟩ ?_ | refine r_mmin (pc := 96) (tX11_reads.at 52 rfl) ml_X11_108 mw_min_s mw_math mw_min_c (Nat.le_of_ble_eq_true rfl) (Nat.le_of_ble_eq_true rfl) (Nat.le_of_ble_eq_true rfl) (Nat.le_of_ble_eq_true rfl) ?_
              refine r_istore_n (pc := 99) (i := 3) (tX11_reads.at 53 rfl) rfl (by decide) ?_
              refine r_aload_n (pc := 100) (i := 0) (tX11_reads.at 54 rfl) rfl rfl ?_
              refine r_dup (pc := 101) (tX11_reads.at 55 rfl) rfl ?_
              refine r_get (pc := 102) (tX11_reads.at 56 rfl) gf_X11_77 (mH_0) rfl ?_
              refine r_ls [some (.ref m), some (.int (zI a)), some (.int (zI b)), some (.int (nI (numR S.txt S.kp (k + 1))))] (by rw [numR]; rfl) ?_
              refine r_eq rfl (st2 := [.int (nI (S.kp + k)), .ref m]) rfl ?_
              refine r_iconst (pc := 105) (w := nI 1) (tX11_reads.at 57 rfl) (by decide) ?_
              first | refine r_iaddN (pc := 106) (tX11_reads.at 58 rfl) ?_ | refine r_iaddZ (pc := 106) (tX11_reads.at 58 rfl) ?_ | refine r_iadd (pc := 106) (tX11_reads.at 58 rfl) ?_
              refine r_put (pc := 107) (tX11_reads.at 59 rfl) pf_X11_77 (mH_0) (Nat.le_of_ble_eq_true rfl) (rfl) (rfl) ?_
              refine r_eq (h2 := mH v h m ((S.s_beg S.kp).s_nxt (S.kp + (k + 1)))) (mH_p0 (S' := (S.s_beg S.kp).s_nxt (S.kp + (k + 1))) rfl) rfl ?_
              refine r_goto (pc := 110) 38 (tX11_reads.at 60 rfl) (by decide) ?_
              refine ih (k + 1) (by omega) (fun j g => ?_)
              by_cases h4 : j = k
              · rw [h4]
                exact decide_eq_true (by omega)
              · exact hj j (by omega)
      exact digits (S.siz - S.kp) 0 (by omega) (fun j hj => by omega)
  · refine r_iconst (pc := 7) (w := nI 0) (tX11_reads.at 3 rfl) (by decide) ?_
    refine r_iret (pc := 8) (tX11_reads.at 4 rfl) rfl (Nat.le_of_ble_eq_true rfl) (Nat.le_of_ble_eq_true rfl) ?_
    subst hPo
    rw [MS.rdR, if_neg (fun z => c0 z.1), MS.rdS, if_neg c0]
    exact ⟨rfl, rfl, rfl⟩
end

