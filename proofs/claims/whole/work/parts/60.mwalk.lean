/-! ===== the reference: distributions, walks ===== -/
theorem fr_rd {n d : Int} (h : 0 < d) : frA n d = rdA n d ∧ frB n d = rdB n d := by
  have hg : Int.gcd n d ≠ 0 := fun z => by
    have := Int.eq_zero_of_gcd_eq_zero_right z
    omega
  unfold frA frB rdA rdB frBy
  rw [if_neg hg, if_neg (by omega)]
  exact ⟨rfl, rfl⟩
theorem ch_fr {W : Nat → Nat} {n x y : Nat} : frA (stN W n x y) (stD W n x) = chA W n x y ∧ frB (stN W n x y) (stD W n x) = chB W n x y := by
  unfold stN stD chA chB
  by_cases c : degN W x n = 0
  · rw [if_pos c, if_pos c, if_pos c, if_pos c]
    exact fr_rd (by omega)
  · rw [if_neg c, if_neg c, if_neg c, if_neg c]
    exact fr_rd (by omega)
def afT (G : GT) (z y k : Int) : Nat := if vtT G z = 0 then (if vtT G y = 0 then (if 0 ≤ k ∧ k ≤ 100 then 0 else 2) else 1) else 1
def MS.fl (S : MS) (C T : Nat → UInt32) (a b : Int) : MS := (((S.s_chn C).s_thn T).s_abv a).s_blw b
def pAf (v : Ev) (h : Hp) (m : Nat) (S : MS) (top : Nat) (t : Nat) (x : UInt32) : Option Value → Hp → Nat → Prop := fun r h' top' => (∃ w, r = some (.float w) ∧ (t = 0 → w = x) ∧ P32 w) ∧ top = top' ∧ ∃ S', h' = mH v h m S' ∧ per S S' ∧ S'.thr = t
theorem tbS_dg {G : GT} {cn : Nat} {cc : Nat → Int} (hw : wfG G) {x : Nat} (hx : x < 6) : ∀ e, e ≤ G.e → tbS G.W cc cn G.L G.H (fun _ => 0) e (x * 6 + x) = 0
  | 0, _ => by
    show filF _ 36 0 _ = 0
    unfold filF
    rw [if_pos (by omega)]
  | e + 1, he => by
    obtain ⟨l1, l2, -⟩ := hw.2.1 e (by omega)
    have h6 := hw.1.1
    rw [tbS, upN_ne _ _ (by omega), upN_ne _ _ (by omega)]
    exact tbS_dg hw hx e (by omega)
def wkT (G : GT) (z k s w : Int) : Nat := if vtT G z = 0 then (if (0 ≤ k ∧ k ≤ 1000) ∧ 0 ≤ s ∧ (0 ≤ w ∧ w ≤ 3) then 0 else 2) else 1
section
variable {v : Ev} {h : Hp} {top m : Nat} {S : MS} {G : GT} {cn : Nat} {cc : Nat → Int}
theorem c_mAfter {z y k : Int} (hr : RW S G cn cc) (hz : inI z) (hy : inI y) (hk : inI k) : Cal v mX11_after 6 0 0 [.ref m, .int (zI z), .int (zI y), .int (zI k)] (mH v h m S) top (pAf v h m S top (afT G z y k) (flN G.W G.n z.toNat k.toNat y.toNat)) noX := by
  have h6 := hr.2.1.1.1
  have hW := hr.2.1.w9
  obtain ⟨k1, k2⟩ := hk
  refine Cal.ofJ (by decide +kernel) rfl (Nat.le_of_ble_eq_true rfl) fun hz0 => ?_
  refine r_ls [some (.ref m), some (.int (zI z)), some (.int (zI y)), some (.int (zI k)), none, none, none] rfl ?_
  generalize ht : afT G z y k = t at *
  generalize hPo : pAf v h m S top t _ = Po
  have out : ∀ S', per S S' → S'.thr = t → t ≠ 0 → J v mX11_after (rmOf 6 0 0) (KM v Po noX 0 0) top 0 0 (mH v h m S') top 26 [some (.ref m), some (.int (zI z)), some (.int (zI y)), some (.int (zI k)), none, none, none] [] := by
    intro S' p' t' tn
    refine r_fconst0 (pc := 26) (tX11_after.at 14 rfl) ?_
    refine r_fret (pc := 27) (tX11_after.at 15 rfl) rfl (Nat.le_of_ble_eq_true rfl) (Nat.le_of_ble_eq_true rfl) ?_
    subst hPo
    exact ⟨⟨_, rfl, fun q => absurd q tn, P32_0⟩, rfl, S', rfl, p', t'⟩
  refine r_aload_n (pc := 0) (i := 0) (tX11_after.at 0 rfl) rfl rfl ?_
  refine r_iload_n (pc := 1) (i := 1) (tX11_after.at 1 rfl) rfl rfl ?_
  refine r_iload_n (pc := 2) (i := 2) (tX11_after.at 2 rfl) rfl rfl ?_
  refine r_callV (M' := mX11_starts2) (pc := 3) (tX11_after.at 3 rfl) ml_X11_277 rfl mw_X11_starts2 ⟨by decide, by decide⟩ (mH_0) rfl rfl ((c_mStarts2 hr hz hy)) rfl rfl (Nat.le_of_ble_eq_true rfl) (Nat.le_of_ble_eq_true rfl) (Nat.le_of_ble_eq_true rfl) ?_
  rintro _ _ _ ⟨rfl, rfl, S1, rfl, p1, t1, l1⟩
  by_cases cz : vtT G z = 0
  · rw [if_pos cz] at t1 ⊢
    by_cases cy : vtT G y = 0
    · rw [cy] at t1 ⊢
      rw [decide_eq_true rfl, Bool.toNat_true]
      refine r_if_eqN (pc := 6) 26 (tX11_after.at 4 rfl) (by decide) (by omega) (fun c => by omega) (fun _ => ?_)
      rw [afT, if_pos cz, if_pos cy] at ht
      refine r_aload_n (pc := 9) (i := 0) (tX11_after.at 5 rfl) rfl rfl ?_
      refine r_iload_n (pc := 10) (i := 3) (tX11_after.at 6 rfl) rfl rfl ?_
      refine r_i2lZ (pc := 11) (tX11_after.at 7 rfl) ⟨by omega, by omega⟩ ?_
      refine r_lconst (pc := 12) (w := lI 0) (tX11_after.at 8 rfl) (by decide) ?_
      refine r_ldc2 (pc := 13) (tX11_after.at 9 rfl) lcL_X11_326 ?_
      refine r_callS (M' := mX11_isIn) (pc := 16) (tX11_after.at 10 rfl) ml_X11_114 rfl mw_X11_isIn ⟨by decide, by decide⟩ (c_mIsIn ⟨by omega, by omega⟩ ⟨by omega, by omega⟩ ⟨by omega, by omega⟩) rfl rfl (Nat.le_of_ble_eq_true rfl) (Nat.le_of_ble_eq_true rfl) (Nat.le_of_ble_eq_true rfl) ?_
      rintro _ _ _ ⟨rfl, rfl, rfl⟩
      refine r_iconst (pc := 19) (w := nI 2) (tX11_after.at 11 rfl) (by decide) ?_
      refine r_callV (M' := mX11_right) (pc := 20) (tX11_after.at 12 rfl) ml_X11_190 rfl mw_X11_right ⟨by decide, by decide⟩ (mH_0) rfl rfl (c_mRight (S := S1) (by omega) (by omega)) rfl rfl (Nat.le_of_ble_eq_true rfl) (Nat.le_of_ble_eq_true rfl) (Nat.le_of_ble_eq_true rfl) ?_
      rintro _ _ _ ⟨rfl, rfl, rfl⟩
      by_cases ck : 0 ≤ k ∧ k ≤ 100
      · rw [if_pos ck] at ht
        rw [show inB k 0 100 = true from decide_eq_true ck, rgtT t1, thr0_eq t1, Bool.toNat_true]
        refine r_if_neN (pc := 23) 28 (tX11_after.at 13 rfl) (by decide) (by omega) (fun _ => ?_) (fun c => by omega)
        obtain ⟨i, rfl, hi⟩ := vt_nat cz
        obtain ⟨j, rfl, hj⟩ := vt_nat cy
        obtain ⟨k, rfl⟩ := Int.eq_ofNat_of_zero_le ck.1
        rw [Int.toNat_natCast, Int.toNat_natCast, Int.toNat_natCast] at hPo
        rw [zI_nat, zI_nat, zI_nat] at *
        have g1 := p1.rwG hr.1
        have hg : ∀ C T a b, rwG (S1.fl C T a b) G := fun C T a b => g1
        have hld : ∀ C T a b, lad (S1.fl C T a b) G cn cc := fun C T a b => l1
        refine r_iconst (pc := 28) (w := nI 0) (tX11_after.at 16 rfl) (by decide) ?_
        refine r_istore (pc := 29) (i := 4) (tX11_after.at 17 rfl) (by decide) ?_
        have k2 : ∀ q st C T a b o5 o6, st + q = k → (∀ u, u < G.n → C u = flN G.W G.n i st u) → J v mX11_after (rmOf 6 0 0) (KM v Po noX 0 0) top 0 0 (mH v h m (S1.fl C T a b)) top 67 [some (.ref m), some (.int (nI i)), some (.int (nI j)), some (.int (nI k)), some (.int (nI st)), o5, o6] [] := by
          intro q
          induction q with
          | zero =>
            intro st C T a b o5 o6 hst hC
            have hst : st = k := by omega
            subst hst
            refine r_iload (pc := 67) (i := 4) (tX11_after.at 36 rfl) rfl ?_
            refine r_iload_n (pc := 69) (i := 3) (tX11_after.at 37 rfl) rfl rfl ?_
            refine r_icmp_geN (pc := 70) 206 (tX11_after.at 38 rfl) (by decide) (by omega) (by omega) (fun _ => ?_) (fun c => by omega)
            refine r_aload_n (pc := 206) (i := 0) (tX11_after.at 108 rfl) rfl rfl ?_
            refine r_get (pc := 207) (tX11_after.at 109 rfl) gf_X11_48 (mH_0) rfl ?_
            refine r_iload_n (pc := 210) (i := 2) (tX11_after.at 110 rfl) rfl rfl ?_
            refine r_fald (pc := 211) (tX11_after.at 111 rfl) (mH_chn) (j) (rfl) (by omega) (Nat.le_of_ble_eq_true rfl) ?_
            refine r_fret (pc := 212) (tX11_after.at 112 rfl) rfl (Nat.le_of_ble_eq_true rfl) (Nat.le_of_ble_eq_true rfl) ?_
            subst hPo
            refine ⟨⟨_, rfl, fun _ => hC j hj, ?_⟩, rfl, _, rfl, per.trans p1 ⟨⟨rfl, rfl, rfl, rfl⟩, rfl, rfl⟩, by rw [← ht]; exact t1⟩
            show P32 (C j)
            rw [hC j hj]
            exact flN_P h6 hW st j hj
          | succ q ih =>
            intro st C T a b o5 o6 hst hC
            have hP : ∀ u, u < G.n → P32 (C u) := fun u hu => by rw [hC u hu]; exact flN_P h6 hW st u hu
            refine r_iload (pc := 67) (i := 4) (tX11_after.at 36 rfl) rfl ?_
            refine r_iload_n (pc := 69) (i := 3) (tX11_after.at 37 rfl) rfl rfl ?_
            refine r_icmp_geN (pc := 70) 206 (tX11_after.at 38 rfl) (by decide) (by omega) (by omega) (fun c => by omega) (fun _ => ?_)
            refine r_iconst (pc := 73) (w := nI 0) (tX11_after.at 39 rfl) (by decide) ?_
            refine r_istore (pc := 74) (i := 5) (tX11_after.at 40 rfl) (by decide) ?_
            -- the chances copied back
            have k5 : ∀ q u C' T a b o6, u + q = G.n → (∀ w, w < G.n → T w = flN G.W G.n i (st + 1) w) → (∀ w, w < u → C' w = flN G.W G.n i (st + 1) w) → J v mX11_after (rmOf 6 0 0) (KM v Po noX 0 0) top 0 0 (mH v h m (S1.fl C' T a b)) top 171 [some (.ref m), some (.int (nI i)), some (.int (nI j)), some (.int (nI k)), some (.int (nI st)), some (.int (nI u)), o6] [] := by
              intro q
              induction q with
              | zero =>
                intro u C' T a b o6 hu hT hC'
                have hu : u = G.n := by omega
                subst hu
                refine r_iload (pc := 171) (i := 5) (tX11_after.at 92 rfl) rfl ?_
                refine r_aload_n (pc := 173) (i := 0) (tX11_after.at 93 rfl) rfl rfl ?_
                refine r_callV (M' := mX11_count) (pc := 174) (tX11_after.at 94 rfl) ml_X11_218 rfl mw_X11_count ⟨by decide, by decide⟩ (mH_0) rfl rfl (c_mCount (hg C' T a b).1) rfl rfl (Nat.le_of_ble_eq_true rfl) (Nat.le_of_ble_eq_true rfl) (Nat.le_of_ble_eq_true rfl) ?_
                rintro _ _ _ ⟨rfl, rfl, rfl⟩
                rw [(hg C' T a b).2.1]
                refine r_icmp_geN (pc := 177) 200 (tX11_after.at 95 rfl) (by decide) (by omega) (by omega) (fun _ => ?_) (fun c => by omega)
                first | refine r_iincN (pc := 200) (tX11_after.at 106 rfl) rfl (by decide) ?_ | refine r_iinc (pc := 200) (tX11_after.at 106 rfl) rfl rfl (by decide) ?_
                refine r_goto (pc := 203) 67 (tX11_after.at 107 rfl) (by decide) ?_
                exact ih (st + 1) C' T a b _ _ (by omega) hC'
              | succ q ih5 =>
                intro u C' T a b o6 hu hT hC'
                refine r_iload (pc := 171) (i := 5) (tX11_after.at 92 rfl) rfl ?_
                refine r_aload_n (pc := 173) (i := 0) (tX11_after.at 93 rfl) rfl rfl ?_
                refine r_callV (M' := mX11_count) (pc := 174) (tX11_after.at 94 rfl) ml_X11_218 rfl mw_X11_count ⟨by decide, by decide⟩ (mH_0) rfl rfl (c_mCount (hg C' T a b).1) rfl rfl (Nat.le_of_ble_eq_true rfl) (Nat.le_of_ble_eq_true rfl) (Nat.le_of_ble_eq_true rfl) ?_
                rintro _ _ _ ⟨rfl, rfl, rfl⟩
                rw [(hg C' T a b).2.1]
                refine r_icmp_geN (pc := 177) 200 (tX11_after.at 95 rfl) (by decide) (by omega) (by omega) (fun c => by omega) (fun _ => ?_)
                refine r_aload_n (pc := 180) (i := 0) (tX11_after.at 96 rfl) rfl rfl ?_
                refine r_get (pc := 181) (tX11_after.at 97 rfl) gf_X11_48 (mH_0) rfl ?_
                refine r_iload (pc := 184) (i := 5) (tX11_after.at 98 rfl) rfl ?_
                refine r_aload_n (pc := 186) (i := 0) (tX11_after.at 99 rfl) rfl rfl ?_
                refine r_get (pc := 187) (tX11_after.at 100 rfl) gf_X11_52 (mH_0) rfl ?_
                refine r_iload (pc := 190) (i := 5) (tX11_after.at 101 rfl) rfl ?_
                refine r_fald (pc := 192) (tX11_after.at 102 rfl) (mH_thn) (u) (rfl) (by omega) (Nat.le_of_ble_eq_true rfl) ?_
                refine r_fast (pc := 193) (tX11_after.at 103 rfl) (mH_chn) (u) (rfl) (by omega) (Nat.le_of_ble_eq_true rfl) ?_
                rw [mH_schn]
                refine r_eq (h2 := mH v h m (S1.fl (vf_upd C' u (T u)) T a b)) rfl rfl ?_
                first | refine r_iincN (pc := 194) (tX11_after.at 104 rfl) rfl (by decide) ?_ | refine r_iinc (pc := 194) (tX11_after.at 104 rfl) rfl rfl (by decide) ?_
                refine r_goto (pc := 197) 171 (tX11_after.at 105 rfl) (by decide) ?_
                refine ih5 (u + 1) _ T a b _ (by omega) hT (fun w hw => ?_)
                unfold vf_upd
                by_cases e : w = u
                · rw [if_pos e, e]
                  exact hT u (by omega)
                · rw [if_neg e]
                  exact hC' w (by omega)
            have k3 : ∀ q u T a b o6, u + q = G.n → (∀ w, w < u → T w = flN G.W G.n i (st + 1) w) → J v mX11_after (rmOf 6 0 0) (KM v Po noX 0 0) top 0 0 (mH v h m (S1.fl C T a b)) top 76 [some (.ref m), some (.int (nI i)), some (.int (nI j)), some (.int (nI k)), some (.int (nI st)), some (.int (nI u)), o6] [] := by
              intro q
              induction q with
              | zero =>
                intro u T a b o6 hu hT
                have hu : u = G.n := by omega
                subst hu
                refine r_iload (pc := 76) (i := 5) (tX11_after.at 41 rfl) rfl ?_
                refine r_aload_n (pc := 78) (i := 0) (tX11_after.at 42 rfl) rfl rfl ?_
                refine r_callV (M' := mX11_count) (pc := 79) (tX11_after.at 43 rfl) ml_X11_218 rfl mw_X11_count ⟨by decide, by decide⟩ (mH_0) rfl rfl (c_mCount (hg C T a b).1) rfl rfl (Nat.le_of_ble_eq_true rfl) (Nat.le_of_ble_eq_true rfl) (Nat.le_of_ble_eq_true rfl) ?_
                rintro _ _ _ ⟨rfl, rfl, rfl⟩
                rw [(hg C T a b).2.1]
                refine r_icmp_geN (pc := 82) 168 (tX11_after.at 44 rfl) (by decide) (by omega) (by omega) (fun _ => ?_) (fun c => by omega)
                refine r_iconst (pc := 168) (w := nI 0) (tX11_after.at 90 rfl) (by decide) ?_
                refine r_istore (pc := 169) (i := 5) (tX11_after.at 91 rfl) (by decide) ?_
                exact k5 G.n 0 C T a b _ (by omega) hT (fun w hw => by omega)
              | succ q ih3 =>
                intro u T a b o6 hu hT
                refine r_iload (pc := 76) (i := 5) (tX11_after.at 41 rfl) rfl ?_
                refine r_aload_n (pc := 78) (i := 0) (tX11_after.at 42 rfl) rfl rfl ?_
                refine r_callV (M' := mX11_count) (pc := 79) (tX11_after.at 43 rfl) ml_X11_218 rfl mw_X11_count ⟨by decide, by decide⟩ (mH_0) rfl rfl (c_mCount (hg C T a b).1) rfl rfl (Nat.le_of_ble_eq_true rfl) (Nat.le_of_ble_eq_true rfl) (Nat.le_of_ble_eq_true rfl) ?_
                rintro _ _ _ ⟨rfl, rfl, rfl⟩
                rw [(hg C T a b).2.1]
                refine r_icmp_geN (pc := 82) 168 (tX11_after.at 44 rfl) (by decide) (by omega) (by omega) (fun c => by omega) (fun _ => ?_)
                refine r_aload_n (pc := 85) (i := 0) (tX11_after.at 45 rfl) rfl rfl ?_
                refine r_get (pc := 86) (tX11_after.at 46 rfl) gf_X11_52 (mH_0) rfl ?_
                refine r_iload (pc := 89) (i := 5) (tX11_after.at 47 rfl) rfl ?_
                refine r_fconst0 (pc := 91) (tX11_after.at 48 rfl) ?_
                refine r_fast (pc := 92) (tX11_after.at 49 rfl) (mH_thn) (u) (rfl) (by omega) (Nat.le_of_ble_eq_true rfl) ?_
                rw [mH_sthn]
                refine r_eq (h2 := mH v h m (S1.fl C (vf_upd T u FP.fconst0) a b)) rfl rfl ?_
                refine r_iconst (pc := 93) (w := nI 0) (tX11_after.at 50 rfl) (by decide) ?_
                refine r_istore (pc := 94) (i := 6) (tX11_after.at 51 rfl) (by decide) ?_
                have k4 : ∀ q x T a b, x + q = G.n → (∀ w, w < u → T w = flN G.W G.n i (st + 1) w) → T u = flA G.W G.n C u x → J v mX11_after (rmOf 6 0 0) (KM v Po noX 0 0) top 0 0 (mH v h m (S1.fl C T a b)) top 96 [some (.ref m), some (.int (nI i)), some (.int (nI j)), some (.int (nI k)), some (.int (nI st)), some (.int (nI u)), some (.int (nI x))] [] := by
                  intro q
                  induction q with
                  | zero =>
                    intro x T a b hx hT hTu
                    have hx : x = G.n := by omega
                    subst hx
                    refine r_iload (pc := 96) (i := 6) (tX11_after.at 52 rfl) rfl ?_
                    refine r_aload_n (pc := 98) (i := 0) (tX11_after.at 53 rfl) rfl rfl ?_
                    refine r_callV (M' := mX11_count) (pc := 99) (tX11_after.at 54 rfl) ml_X11_218 rfl mw_X11_count ⟨by decide, by decide⟩ (mH_0) rfl rfl (c_mCount (hg C T a b).1) rfl rfl (Nat.le_of_ble_eq_true rfl) (Nat.le_of_ble_eq_true rfl) (Nat.le_of_ble_eq_true rfl) ?_
                    rintro _ _ _ ⟨rfl, rfl, rfl⟩
                    rw [(hg C T a b).2.1]
                    refine r_icmp_geN (pc := 102) 162 (tX11_after.at 55 rfl) (by decide) (by omega) (by omega) (fun _ => ?_) (fun c => by omega)
                    first | refine r_iincN (pc := 162) (tX11_after.at 88 rfl) rfl (by decide) ?_ | refine r_iinc (pc := 162) (tX11_after.at 88 rfl) rfl rfl (by decide) ?_
                    refine r_goto (pc := 165) 76 (tX11_after.at 89 rfl) (by decide) ?_
                    refine ih3 (u + 1) T a b _ (by omega) (fun w hw => ?_)
                    by_cases e : w = u
                    · rw [e, hTu, flN]
                      exact flA_cong hC G.n (Nat.le_refl _)
                    · exact hT w (by omega)
                  | succ q ih4 =>
                    intro x T a b hx hT hTu
                    obtain ⟨g1', g2, -, g4⟩ := fqT_ok (W := G.W) (n := G.n) (x := x) (y := u) h6 (by omega) (by omega) hW
                    obtain ⟨ca, cb, e1, e2, b1, b2, b3⟩ := ch_b (W := G.W) (n := G.n) (x := x) (y := u) h6 (by omega) (by omega) hW
                    obtain ⟨f1, f2⟩ := ch_fr (W := G.W) (n := G.n) (x := x) (y := u)
                    refine r_iload (pc := 96) (i := 6) (tX11_after.at 52 rfl) rfl ?_
                    refine r_aload_n (pc := 98) (i := 0) (tX11_after.at 53 rfl) rfl rfl ?_
                    refine r_callV (M' := mX11_count) (pc := 99) (tX11_after.at 54 rfl) ml_X11_218 rfl mw_X11_count ⟨by decide, by decide⟩ (mH_0) rfl rfl (c_mCount (hg C T a b).1) rfl rfl (Nat.le_of_ble_eq_true rfl) (Nat.le_of_ble_eq_true rfl) (Nat.le_of_ble_eq_true rfl) ?_
                    rintro _ _ _ ⟨rfl, rfl, rfl⟩
                    rw [(hg C T a b).2.1]
                    refine r_icmp_geN (pc := 102) 162 (tX11_after.at 55 rfl) (by decide) (by omega) (by omega) (fun c => by omega) (fun _ => ?_)
                    refine r_aload_n (pc := 105) (i := 0) (tX11_after.at 56 rfl) rfl rfl ?_
                    refine r_iload (pc := 106) (i := 6) (tX11_after.at 57 rfl) rfl ?_
                    refine r_iload (pc := 108) (i := 5) (tX11_after.at 58 rfl) rfl ?_
                    refine r_callV (M' := mX11_step) (pc := 110) (tX11_after.at 59 rfl) ml_X11_280 rfl mw_X11_step ⟨by decide, by decide⟩ (mH_0) rfl rfl (c_mStep (hld C T a b) h6 (x := x) (y := u) (by omega) (by omega) hW) rfl rfl (Nat.le_of_ble_eq_true rfl) (Nat.le_of_ble_eq_true rfl) (Nat.le_of_ble_eq_true rfl) ?_
                    rintro _ _ _ ⟨rfl, rfl, rfl⟩
                    refine r_eq (h2 := mH v h m (S1.fl C T (chA G.W G.n x u) (chB G.W G.n x u))) (by rw [← f1, ← f2]; rfl) rfl ?_
                    have nx := fun T a b => ih4 (x + 1) T a b (by omega)
                    rw [flA] at nx
                    refine r_aload_n (pc := 113) (i := 0) (tX11_after.at 60 rfl) rfl rfl ?_
                    refine r_get (pc := 114) (tX11_after.at 61 rfl) gf_X11_228 (mH_0) rfl ?_
                    refine r_lconst (pc := 117) (w := lI 0) (tX11_after.at 62 rfl) (by decide) ?_
                    refine r_eq rfl (st2 := [.long (lI 0), .long (lI (chA G.W G.n x u))]) rfl ?_
                    refine r_lc_eq (pc := 118) 156 (tX11_after.at 63 rfl) (tX11_after.at 64 rfl) (by decide) (⟨by omega, by omega⟩) (⟨by omega, by omega⟩) (fun c => ?_) (fun c => ?_)
                    · rw [if_pos c] at nx
                      first | refine r_iincN (pc := 156) (tX11_after.at 86 rfl) rfl (by decide) ?_ | refine r_iinc (pc := 156) (tX11_after.at 86 rfl) rfl rfl (by decide) ?_
                      refine r_goto (pc := 159) 96 (tX11_after.at 87 rfl) (by decide) ?_
                      exact nx T _ _ hT hTu
                    · rw [if_neg c] at nx
                      have q1 := P32_mul (hP x (by omega)) ⟨g2 c, g1'⟩
                      have q2 := P32_add (flA_P (nw := C) h6 (show u < 6 by omega) hW hP x (by omega)) q1
                      refine r_aload_n (pc := 122) (i := 0) (tX11_after.at 65 rfl) rfl rfl ?_
                      refine r_get (pc := 123) (tX11_after.at 66 rfl) gf_X11_52 (mH_0) rfl ?_
                      refine r_iload (pc := 126) (i := 5) (tX11_after.at 67 rfl) rfl ?_
                      refine r_aload_n (pc := 128) (i := 0) (tX11_after.at 68 rfl) rfl rfl ?_
                      refine r_get (pc := 129) (tX11_after.at 69 rfl) gf_X11_52 (mH_0) rfl ?_
                      refine r_iload (pc := 132) (i := 5) (tX11_after.at 70 rfl) rfl ?_
                      refine r_fald (pc := 134) (tX11_after.at 71 rfl) (mH_thn) (u) (rfl) (by omega) (Nat.le_of_ble_eq_true rfl) ?_
                      refine r_aload_n (pc := 135) (i := 0) (tX11_after.at 72 rfl) rfl rfl ?_
                      refine r_get (pc := 136) (tX11_after.at 73 rfl) gf_X11_48 (mH_0) rfl ?_
                      refine r_iload (pc := 139) (i := 6) (tX11_after.at 74 rfl) rfl ?_
                      refine r_fald (pc := 141) (tX11_after.at 75 rfl) (mH_chn) (x) (rfl) (by omega) (Nat.le_of_ble_eq_true rfl) ?_
                      refine r_aload_n (pc := 142) (i := 0) (tX11_after.at 76 rfl) rfl rfl ?_
                      refine r_get (pc := 143) (tX11_after.at 77 rfl) gf_X11_228 (mH_0) rfl ?_
                      refine r_eq rfl (st2 := [.long (lI (chA G.W G.n x u)), .float (C x), .float (T u), .int (nI u), .ref (m + 13)]) rfl ?_
                      refine r_l2f (pc := 146) (tX11_after.at 78 rfl) ?_
                      refine r_aload_n (pc := 147) (i := 0) (tX11_after.at 79 rfl) rfl rfl ?_
                      refine r_get (pc := 148) (tX11_after.at 80 rfl) gf_X11_232 (mH_0) rfl ?_
                      refine r_eq rfl (st2 := [.long (lI (chB G.W G.n x u)), .float (FP.l2f (lI (chA G.W G.n x u))), .float (C x), .float (T u), .int (nI u), .ref (m + 13)]) rfl ?_
                      refine r_l2f (pc := 151) (tX11_after.at 81 rfl) ?_
                      refine r_fdiv (pc := 152) (tX11_after.at 82 rfl) (by rw [g4]; exact P32.n32 (Nat.le_of_lt g1')) ?_
                      rw [g4, hTu]
                      refine r_fmul (pc := 153) (tX11_after.at 83 rfl) (q1.n32) ?_
                      refine r_fadd (pc := 154) (tX11_after.at 84 rfl) (q2.n32) ?_
                      refine r_fast (pc := 155) (tX11_after.at 85 rfl) (mH_thn) (u) (rfl) (by omega) (Nat.le_of_ble_eq_true rfl) ?_
                      rw [mH_sthn]
                      refine r_eq (h2 := mH v h m (S1.fl C (vf_upd T u (FP.fadd (flA G.W G.n C u x) (FP.fmul (C x) (fqT G.W G.n x u)))) (chA G.W G.n x u) (chB G.W G.n x u))) rfl rfl ?_
                      first | refine r_iincN (pc := 156) (tX11_after.at 86 rfl) rfl (by decide) ?_ | refine r_iinc (pc := 156) (tX11_after.at 86 rfl) rfl rfl (by decide) ?_
                      refine r_goto (pc := 159) 96 (tX11_after.at 87 rfl) (by decide) ?_
                      refine nx _ _ _ (fun w hw => ?_) ?_
                      · unfold vf_upd
                        rw [if_neg (by omega)]
                        exact hT w hw
                      · unfold vf_upd
                        rw [if_pos rfl]
                refine k4 G.n 0 _ _ _ (by omega) (fun w hw => ?_) ?_
                · unfold vf_upd
                  rw [if_neg (by omega)]
                  exact hT w hw
                · unfold vf_upd
                  rw [if_pos rfl]
                  rfl
            exact k3 G.n 0 T a b _ (by omega) (fun w hw => by omega)
        have k1 : ∀ q u C T a b, u + q = G.n → (∀ w, w < u → C w = flN G.W G.n i 0 w) → J v mX11_after (rmOf 6 0 0) (KM v Po noX 0 0) top 0 0 (mH v h m (S1.fl C T a b)) top 31 [some (.ref m), some (.int (nI i)), some (.int (nI j)), some (.int (nI k)), some (.int (nI u)), none, none] [] := by
          intro q
          induction q with
          | zero =>
            intro u C T a b hu hC
            have hu : u = G.n := by omega
            subst hu
            refine r_iload (pc := 31) (i := 4) (tX11_after.at 18 rfl) rfl ?_
            refine r_aload_n (pc := 33) (i := 0) (tX11_after.at 19 rfl) rfl rfl ?_
            refine r_callV (M' := mX11_count) (pc := 34) (tX11_after.at 20 rfl) ml_X11_218 rfl mw_X11_count ⟨by decide, by decide⟩ (mH_0) rfl rfl (c_mCount (hg C T a b).1) rfl rfl (Nat.le_of_ble_eq_true rfl) (Nat.le_of_ble_eq_true rfl) (Nat.le_of_ble_eq_true rfl) ?_
            rintro _ _ _ ⟨rfl, rfl, rfl⟩
            rw [(hg C T a b).2.1]
            refine r_icmp_geN (pc := 37) 64 (tX11_after.at 21 rfl) (by decide) (by omega) (by omega) (fun _ => ?_) (fun c => by omega)
            refine r_iconst (pc := 64) (w := nI 0) (tX11_after.at 34 rfl) (by decide) ?_
            refine r_istore (pc := 65) (i := 4) (tX11_after.at 35 rfl) (by decide) ?_
            exact k2 k 0 C T a b _ _ (by omega) hC
          | succ q ih =>
            intro u C T a b hu hC
            have fin : ∀ z, z = (if u = i then FP.fconst1 else FP.fconst0) → J v mX11_after (rmOf 6 0 0) (KM v Po noX 0 0) top 0 0 (mH v h m (S1.fl C T a b)) top 57 [some (.ref m), some (.int (nI i)), some (.int (nI j)), some (.int (nI k)), some (.int (nI u)), none, none] [.float z, .int (nI u), .ref (m + 12)] := by
              intro z hz
              refine r_fast (pc := 57) (tX11_after.at 31 rfl) (mH_chn) (u) (rfl) (by omega) (Nat.le_of_ble_eq_true rfl) ?_
              rw [mH_schn]
              refine r_eq (h2 := mH v h m (S1.fl (vf_upd C u z) T a b)) rfl rfl ?_
              first | refine r_iincN (pc := 58) (tX11_after.at 32 rfl) rfl (by decide) ?_ | refine r_iinc (pc := 58) (tX11_after.at 32 rfl) rfl rfl (by decide) ?_
              refine r_goto (pc := 61) 31 (tX11_after.at 33 rfl) (by decide) ?_
              refine ih (u + 1) _ _ _ _ (by omega) (fun w hw => ?_)
              unfold vf_upd
              by_cases e : w = u
              · rw [if_pos e, hz, e]
                rfl
              · rw [if_neg e]
                exact hC w (by omega)
            refine r_iload (pc := 31) (i := 4) (tX11_after.at 18 rfl) rfl ?_
            refine r_aload_n (pc := 33) (i := 0) (tX11_after.at 19 rfl) rfl rfl ?_
            refine r_callV (M' := mX11_count) (pc := 34) (tX11_after.at 20 rfl) ml_X11_218 rfl mw_X11_count ⟨by decide, by decide⟩ (mH_0) rfl rfl (c_mCount (hg C T a b).1) rfl rfl (Nat.le_of_ble_eq_true rfl) (Nat.le_of_ble_eq_true rfl) (Nat.le_of_ble_eq_true rfl) ?_
            rintro _ _ _ ⟨rfl, rfl, rfl⟩
            rw [(hg C T a b).2.1]
            refine r_icmp_geN (pc := 37) 64 (tX11_after.at 21 rfl) (by decide) (by omega) (by omega) (fun c => by omega) (fun _ => ?_)
            refine r_aload_n (pc := 40) (i := 0) (tX11_after.at 22 rfl) rfl rfl ?_
            refine r_get (pc := 41) (tX11_after.at 23 rfl) gf_X11_48 (mH_0) rfl ?_
            refine r_iload (pc := 44) (i := 4) (tX11_after.at 24 rfl) rfl ?_
            refine r_iload (pc := 46) (i := 4) (tX11_after.at 25 rfl) rfl ?_
            refine r_iload_n (pc := 48) (i := 1) (tX11_after.at 26 rfl) rfl rfl ?_
            refine r_icmp_neN (pc := 49) 56 (tX11_after.at 27 rfl) (by decide) (by omega) (by omega) (fun c => ?_) (fun c => ?_)
            · refine r_fconst0 (pc := 56) (tX11_after.at 30 rfl) ?_
              exact fin _ (by rw [if_neg c])
            · refine r_fconst1 (pc := 52) (tX11_after.at 28 rfl) ?_
              refine r_goto (pc := 53) 57 (tX11_after.at 29 rfl) (by decide) ?_
              exact fin _ (by rw [if_pos c])
        refine r_eq (h2 := mH v h m (S1.fl S1.chn S1.thn S1.abv S1.blw)) rfl rfl ?_
        exact k1 G.n 0 _ _ _ _ (by omega) (fun w hw => by omega)
      · rw [if_neg ck] at ht
        rw [show inB k 0 100 = false from decide_eq_false ck, rgtF t1, thrN_eq (show (S1.s_thr 2).thr ≠ 0 from by show (2 : Nat) ≠ 0; omega), Bool.toNat_false]
        refine r_if_neN (pc := 23) 28 (tX11_after.at 13 rfl) (by decide) (by omega) (fun c => by omega) (fun _ => ?_)
        exact out _ (per.trans p1 (per0 S1 2)) ht (by omega)
    · have cy1 : vtT G y = 1 := by unfold vtT at *; split <;> simp_all
      rw [cy1] at t1 ⊢
      rw [afT, if_pos cz, if_neg cy] at ht
      rw [decide_eq_false (by omega), Bool.toNat_false]
      refine r_if_eqN (pc := 6) 26 (tX11_after.at 4 rfl) (by decide) (by omega) (fun _ => ?_) (fun c => by omega)
      exact out _ p1 (by rw [t1, ht]) (by omega)
  · rw [if_neg cz] at t1 ⊢
    rw [afT, if_neg cz] at ht
    rw [decide_eq_false (by omega), Bool.toNat_false]
    refine r_if_eqN (pc := 6) 26 (tX11_after.at 4 rfl) (by decide) (by omega) (fun _ => ?_) (fun c => by omega)
    exact out _ p1 (by rw [t1, ht]) (by omega)
end

