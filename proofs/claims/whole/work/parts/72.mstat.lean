/-! ===== the reference: statements ===== -/
def MS.co1 (S : MS) : MS := (if S.hco = 0 then S.see.tkS 29 else (S.see.tkS 29).fls (-2) S.kp).s_hco 1
def MS.sts (S : MS) : MS :=
  if S.see.tkB 26 = true then (S.see.tkS 26).elS
  else if S.see.tkB 27 = true then (S.see.tkS 27).abL
  else if S.see.tkB 28 = true then (S.see.tkS 28).jnL
  else if S.see.tkB 29 = true then (if S.co1.err = 0 then lvS 4 S.co1 else S.co1)
  else S.see.fls (-2) S.kp
def MS.stm (S : MS) : MS := S.sts.wan 59
/-- what holds between two statements -/
def I1 (S : MS) : Prop := (okP S ∧ inI S.err) ∧ (S.red 0 ≤ 6 ∧ 4 * S.red 1 ≤ S.nxt ∧ S.red 2 < 64 ∧ S.red 3 ≤ 590 ∧ ∀ k, k < 1240 → S.red k ≤ 10000) ∧ S.nst = 0 ∧ (S.hco ≤ 1 ∧ (S.hco = 0 → S.red 3 = 0)) ∧ 6 ≤ S.nxt
theorem I1.rd {S : MS} (h : I1 S) : okRd S := ⟨h.2.1.1, by have := h.2.1.2.1; have := h.1.1.2.1; have := h.1.1.1; omega, h.2.1.2.2.1, by have := h.2.1.2.2.2.1; omega, h.2.1.2.2.2.2⟩
/-- what moves on and leaves the row alone -/
theorem I1.mv {S S' : MS} (h : I1 S) (a : adv S S') (hr : S'.red = S.red) (hn : S'.nst = S.nst) (hh : S'.hco = S.hco) : I1 S' := by
  obtain ⟨⟨h1, h2⟩, ⟨h3, h4, h5, h6, h7⟩, h8, h9, h10⟩ := h
  have a1 := a.2.1
  refine ⟨⟨a.ok h1, a.2.2.2 h2⟩, ?_, by rw [hn]; exact h8, by rw [hh, hr]; exact h9, by omega⟩
  rw [hr]
  exact ⟨h3, by omega, h5, h6, h7⟩
theorem I1.see {S : MS} (h : I1 S) : I1 S.see := h.mv (adv_see h.1.1) rfl rfl rfl
theorem I1.tk {S : MS} (h : I1 S) (i : Nat) : I1 (S.tkS i) := h.mv (tkS_adv h.1.1) tkS_red.1 tkS_red.2.2.1 tkS_red.2.1
theorem I1.fls {S : MS} (h : I1 S) (a : Nat) {c : Int} (hc : inI c) : I1 (S.fls c a) := h.mv (fls_adv h.1.1 hc) fls_red.1 fls_red.2.2 fls_red.2.1
theorem I1.rdS {S : MS} (h : I1 S) (a b : Int) : I1 (S.rdS a b) := h.mv (rdS_adv h.1.1) rdS_red.1 rdS_red.2.2 rdS_red.2.1
theorem I1.wan {S : MS} (h : I1 S) (c : Nat) : I1 (S.wan c) := h.mv (wan_adv h.1.1) wan_red.1 wan_red.2.2 wan_red.2.1
theorem tk_len {S : MS} {i : Nat} (h : S.tkB i = true) : S.err = 0 ∧ (S.tkS i).nxt = S.kp + (stText i).length := by
  unfold MS.tkB at h
  rw [Bool.and_eq_true, decide_eq_true_iff] at h
  refine ⟨h.1, ?_⟩
  unfold MS.tkS
  rw [if_pos h.1, if_pos h.2]
  have := (of_decide_eq_true h.2).1
  have h2 : S.kp ≤ S.ke := Nat.le_add_right _ _
  show S.ke = _
  omega
theorem len29 : (stText 26).length = 4 ∧ (stText 27).length = 6 ∧ (stText 28).length = 4 ∧ (stText 29).length = 4 ∧ (stText 25).length = 4 := by decide +kernel
theorem el_I1 {S : MS} (h : I1 S) (h4 : 4 * S.red 1 + 4 ≤ S.nxt) : I1 S.elS ∧ adv S S.elS := by
  have ha := rvR_le h.2.1.1
  have i1 : I1 S.rvS := h.rdS _ _
  have hb := rvR_le i1.2.1.1
  have i2 : I1 S.rvS.rvS := i1.rdS _ _
  have a2 : adv S S.rvS.rvS := (rdS_adv h.1.1).trans (rdS_adv i1.1.1)
  have r2 : S.rvS.rvS.red = S.red := (rdS_red (S := S.rvS)).1.trans (rdS_red (S := S)).1
  have i3 : I1 S.el3 ∧ adv S S.el3 ∧ S.el3.red = S.red := by
    unfold MS.el3
    split
    · exact ⟨i2.fls _ ⟨by omega, by omega⟩, a2.trans (fls_adv i2.1.1 ⟨by omega, by omega⟩), fls_red.1.trans r2⟩
    · exact ⟨i2, a2, r2⟩
  have i4 : I1 S.el4 := i3.1.rdS 1 9
  have a4 : adv S S.el4 := i3.2.1.trans (rdS_adv i3.1.1.1)
  have r4 : S.el4.red = S.red := (rdS_red (S := S.el3)).1.trans i3.2.2
  have hw := rd19 (S := S.el3)
  unfold MS.elS
  split
  · obtain ⟨⟨h1, h2⟩, ⟨g3, g4, g5, g6, g7⟩, g8, g9, g10⟩ := i4
    have hn := a4.2.1
    have h1' : S.el4.red 1 = S.red 1 := by rw [r4]
    have hq := h1.2.1
    have hq2 := h1.1
    refine ⟨⟨⟨h1, h2⟩, ⟨?_, ?_, ?_, ?_, fun k hk => ?_⟩, g8, ⟨g9.1, fun z => ?_⟩, g10⟩, ⟨⟨a4.1.1, a4.1.2⟩, a4.2.1, a4.2.2.1, a4.2.2.2⟩⟩
    · show upN (upN (upN (upN S.el4.red (4 + 3 * S.el4.red 1) (min S.rvR S.rvS.rvR)) (4 + 3 * S.el4.red 1 + 1) (max S.rvR S.rvS.rvR)) (4 + 3 * S.el4.red 1 + 2) (S.el3.rdR 1 9)) 1 (S.el4.red 1 + 1) 0 ≤ 6
      rw [upN_ne _ _ (by omega), upN_ne _ _ (by omega), upN_ne _ _ (by omega), upN_ne _ _ (by omega)]
      exact g3
    · show 4 * upN (upN (upN (upN S.el4.red (4 + 3 * S.el4.red 1) (min S.rvR S.rvS.rvR)) (4 + 3 * S.el4.red 1 + 1) (max S.rvR S.rvS.rvR)) (4 + 3 * S.el4.red 1 + 2) (S.el3.rdR 1 9)) 1 (S.el4.red 1 + 1) 1 ≤ S.el4.nxt
      rw [upN_eq]
      omega
    · show upN (upN (upN (upN S.el4.red (4 + 3 * S.el4.red 1) (min S.rvR S.rvS.rvR)) (4 + 3 * S.el4.red 1 + 1) (max S.rvR S.rvS.rvR)) (4 + 3 * S.el4.red 1 + 2) (S.el3.rdR 1 9)) 1 (S.el4.red 1 + 1) 2 < 64
      rw [upN_ne _ _ (by omega), upN_ne _ _ (by omega), upN_ne _ _ (by omega), upN_ne _ _ (by omega)]
      exact g5
    · show upN (upN (upN (upN S.el4.red (4 + 3 * S.el4.red 1) (min S.rvR S.rvS.rvR)) (4 + 3 * S.el4.red 1 + 1) (max S.rvR S.rvS.rvR)) (4 + 3 * S.el4.red 1 + 2) (S.el3.rdR 1 9)) 1 (S.el4.red 1 + 1) 3 ≤ 590
      rw [upN_ne _ _ (by omega), upN_ne _ _ (by omega), upN_ne _ _ (by omega), upN_ne _ _ (by omega)]
      exact g6
    · show upN (upN (upN (upN S.el4.red (4 + 3 * S.el4.red 1) (min S.rvR S.rvS.rvR)) (4 + 3 * S.el4.red 1 + 1) (max S.rvR S.rvS.rvR)) (4 + 3 * S.el4.red 1 + 2) (S.el3.rdR 1 9)) 1 (S.el4.red 1 + 1) k ≤ 10000
      unfold upN
      split
      · omega
      · split
        · omega
        · split
          · omega
          · split
            · omega
            · exact g7 k hk
    · show upN (upN (upN (upN S.el4.red (4 + 3 * S.el4.red 1) (min S.rvR S.rvS.rvR)) (4 + 3 * S.el4.red 1 + 1) (max S.rvR S.rvS.rvR)) (4 + 3 * S.el4.red 1 + 2) (S.el3.rdR 1 9)) 1 (S.el4.red 1 + 1) 3 = 0
      rw [upN_ne _ _ (by omega), upN_ne _ _ (by omega), upN_ne _ _ (by omega), upN_ne _ _ (by omega)]
      exact g9.2 z
  · exact ⟨i4, a4⟩
theorem ab_I1 {S : MS} (h : I1 S) : I1 S.abL ∧ adv S S.abL := by
  have ha := rvR_le h.2.1.1
  have i1 : I1 S.rvS := h.rdS _ _
  have a1 : adv S S.rvS := rdS_adv h.1.1
  have i2 : I1 S.ab2 ∧ adv S S.ab2 := by
    unfold MS.ab2
    split
    · exact ⟨i1.fls _ ⟨by omega, by omega⟩, a1.trans (fls_adv i1.1.1 ⟨by omega, by omega⟩)⟩
    · exact ⟨i1, a1⟩
  unfold MS.abL
  split
  · obtain ⟨⟨⟨h1, h2⟩, ⟨g3, g4, g5, g6, g7⟩, g8, g9, g10⟩, a4⟩ := i2
    have hlt : S.ab2.red 2 ||| 2 ^ S.rvR < 64 := bs_or_lt (n := 6) g5 (Nat.pow_lt_pow_right (by omega) (by omega))
    refine ⟨⟨⟨h1, h2⟩, ⟨?_, ?_, ?_, ?_, fun k hk => ?_⟩, g8, ⟨g9.1, fun z => ?_⟩, g10⟩, ⟨⟨a4.1.1, a4.1.2⟩, a4.2.1, a4.2.2.1, a4.2.2.2⟩⟩
    · show upN S.ab2.red 2 (S.ab2.red 2 ||| 2 ^ S.rvR) 0 ≤ 6
      rw [upN_ne _ _ (by omega)]
      exact g3
    · show 4 * upN S.ab2.red 2 (S.ab2.red 2 ||| 2 ^ S.rvR) 1 ≤ S.ab2.nxt
      rw [upN_ne _ _ (by omega)]
      exact g4
    · show upN S.ab2.red 2 (S.ab2.red 2 ||| 2 ^ S.rvR) 2 < 64
      rw [upN_eq]
      exact hlt
    · show upN S.ab2.red 2 (S.ab2.red 2 ||| 2 ^ S.rvR) 3 ≤ 590
      rw [upN_ne _ _ (by omega)]
      exact g6
    · show upN S.ab2.red 2 (S.ab2.red 2 ||| 2 ^ S.rvR) k ≤ 10000
      unfold upN
      split
      · omega
      · exact g7 k hk
    · show upN S.ab2.red 2 (S.ab2.red 2 ||| 2 ^ S.rvR) 3 = 0
      rw [upN_ne _ _ (by omega)]
      exact g9.2 z
  · exact i2
theorem rlF_out {f : Nat → Nat} {fr many old lb k : Nat} (h : k < fr) : rlF f fr many old lb k = f k := by
  unfold rlF
  rw [if_neg (by omega)]
theorem jn_I1 {S : MS} (h : I1 S) : I1 S.jnL ∧ adv S S.jnL := by
  have ha := rvR_le h.2.1.1
  have i1 : I1 S.rvS := h.rdS _ _
  have i2 : I1 S.rvS.rvS := i1.rdS _ _
  have a2 : adv S S.rvS.rvS := (rdS_adv h.1.1).trans (rdS_adv i1.1.1)
  unfold MS.jnL
  split
  · obtain ⟨⟨h1, h2⟩, ⟨g3, g4, g5, g6, g7⟩, g8, g9, g10⟩ := i2
    refine ⟨⟨⟨h1, h2⟩, ⟨?_, ?_, ?_, ?_, fun k hk => ?_⟩, g8, ⟨g9.1, fun z => ?_⟩, g10⟩, ⟨⟨a2.1.1, a2.1.2⟩, a2.2.1, a2.2.2.1, a2.2.2.2⟩⟩
    · show rlF S.rvS.rvS.red 49 (S.rvS.rvS.red 0) (S.rvS.rvS.red (49 + S.rvS.rvR)) (S.rvS.rvS.red (49 + S.rvR)) 0 ≤ 6
      rw [rlF_out (by omega)]
      exact g3
    · show 4 * rlF S.rvS.rvS.red 49 (S.rvS.rvS.red 0) (S.rvS.rvS.red (49 + S.rvS.rvR)) (S.rvS.rvS.red (49 + S.rvR)) 1 ≤ S.rvS.rvS.nxt
      rw [rlF_out (by omega)]
      exact g4
    · show rlF S.rvS.rvS.red 49 (S.rvS.rvS.red 0) (S.rvS.rvS.red (49 + S.rvS.rvR)) (S.rvS.rvS.red (49 + S.rvR)) 2 < 64
      rw [rlF_out (by omega)]
      exact g5
    · show rlF S.rvS.rvS.red 49 (S.rvS.rvS.red 0) (S.rvS.rvS.red (49 + S.rvS.rvR)) (S.rvS.rvS.red (49 + S.rvR)) 3 ≤ 590
      rw [rlF_out (by omega)]
      exact g6
    · show rlF S.rvS.rvS.red 49 (S.rvS.rvS.red 0) (S.rvS.rvS.red (49 + S.rvS.rvR)) (S.rvS.rvS.red (49 + S.rvR)) k ≤ 10000
      unfold rlF
      split
      · exact g7 _ (by omega)
      · exact g7 k hk
    · show rlF S.rvS.rvS.red 49 (S.rvS.rvS.red 0) (S.rvS.rvS.red (49 + S.rvS.rvR)) (S.rvS.rvS.red (49 + S.rvR)) 3 = 0
      rw [rlF_out (by omega)]
      exact g9.2 z
  · exact ⟨i2, a2⟩
/-- a cost statement begun -/
theorem co_I1 {S : MS} (h : I1 S) (h0 : S.err = 0) (ht : S.see.tkB 29 = true) : (S.co1.err = 0 → Pq S.co1 ∧ S.co1.nst = 0 ∧ S.hco = 0) ∧ adv S S.co1 ∧ (S.see.tkS 29).nst = 0 ∧ S.co1.red = S.red ∧ S.co1.nst = 0 ∧ S.co1.hco = 1 ∧ S.nxt + 4 ≤ S.co1.nxt := by
  have is := h.see
  have it := is.tk 29
  have hl := (tk_len ht).2
  have hk := h.1.1.kp
  rw [len29.2.2.2.1, h.1.1.see.2] at hl
  have at1 : adv S (S.see.tkS 29) := (adv_see h.1.1).trans (tkS_adv is.1.1)
  have rt : (S.see.tkS 29).red = S.red := (tkS_red (S := S.see)).1
  have et : (S.see.tkS 29).err = S.err := (tkS_red (S := S.see)).2.2.2
  unfold MS.co1
  by_cases c : S.hco = 0
  · rw [if_pos c]
    refine ⟨fun _ => ⟨⟨it.1.1, it.1.2, it.2.1.2.2.2.2, ?_⟩, it.2.2.1, c⟩, ⟨⟨at1.1.1, at1.1.2⟩, at1.2⟩, it.2.2.1, rt, it.2.2.1, rfl, by show S.nxt + 4 ≤ (S.see.tkS 29).nxt; omega⟩
    show (S.see.tkS 29).red 3 + 10 ≤ (S.see.tkS 29).nxt
    rw [rt, h.2.2.2.1.2 c]
    have := h.2.2.2.2
    omega
  · rw [if_neg c]
    have e0 : (S.see.tkS 29).err = 0 := et.trans h0
    have ef : (S.see.tkS 29).fls (-2) S.kp = ((S.see.tkS 29).s_err (-2)).s_plc S.kp := if_pos e0
    rw [ef]
    refine ⟨fun z => ?_, ⟨⟨at1.1.1, at1.1.2⟩, at1.2.1, at1.2.2.1, fun _ => ⟨by show (-2147483648 : Int) ≤ -2; omega, by show (-2 : Int) ≤ 2147483647; omega⟩⟩, it.2.2.1, rt, it.2.2.1, rfl, by show S.nxt + 4 ≤ (S.see.tkS 29).nxt; omega⟩
    have : (-2 : Int) = 0 := z
    omega
theorem sts_I1 {S : MS} (h : I1 S) (h0 : S.err = 0) : I1 S.sts ∧ adv S S.sts ∧ (S.sts.err = 0 → S.nxt < S.sts.nxt) := by
  have is := h.see
  have as := adv_see h.1.1
  have hk := h.1.1.kp
  have ek := h.1.1.see.2
  have step : ∀ i, S.see.tkB i = true → I1 (S.see.tkS i) ∧ adv S (S.see.tkS i) ∧ (S.see.tkS i).nxt = S.kp + (stText i).length ∧ (S.see.tkS i).red = S.red := by
    intro i hi
    have := (tk_len hi).2
    rw [ek] at this
    exact ⟨is.tk i, as.trans (tkS_adv is.1.1), this, (tkS_red (S := S.see)).1⟩
  unfold MS.sts
  split
  · next c =>
    obtain ⟨s1, s2, s3, s4⟩ := step 26 c
    rw [len29.1] at s3
    obtain ⟨e1, e2⟩ := el_I1 s1 (by rw [s4, s3]; have := h.2.1.2.1; omega)
    exact ⟨e1, s2.trans e2, fun _ => by have := e2.2.1; omega⟩
  · split
    · next c =>
      obtain ⟨s1, s2, s3, s4⟩ := step 27 c
      rw [len29.2.1] at s3
      obtain ⟨e1, e2⟩ := ab_I1 s1
      exact ⟨e1, s2.trans e2, fun _ => by have := e2.2.1; omega⟩
    · split
      · next c =>
        obtain ⟨s1, s2, s3, s4⟩ := step 28 c
        rw [len29.2.2.1] at s3
        obtain ⟨e1, e2⟩ := jn_I1 s1
        exact ⟨e1, s2.trans e2, fun _ => by have := e2.2.1; omega⟩
      · split
        · next c =>
          obtain ⟨c1, c2, c3, c4, c5, c6, c7⟩ := co_I1 h h0 c
          split
          · next c8 =>
            obtain ⟨d1, d2, d3⟩ := c1 c8
            obtain ⟨g, -⟩ := lv_ok 4 (by omega) S.co1 d1 d2
            have gP := g.P d1
            refine ⟨⟨⟨gP.1, gP.2.1⟩, ⟨?_, ?_, ?_, ?_, gP.2.2.1⟩, g.2.1.trans d2, ⟨Nat.le_of_eq (g.2.2.1.trans c6), fun z => ?_⟩, ?_⟩, c2.trans g.1, fun _ => by have := g.1.2.1; omega⟩
            · rw [g.2.2.2.2.1 0 (by omega) (by omega), c4]
              exact h.2.1.1
            · rw [g.2.2.2.2.1 1 (by omega) (by omega), c4]
              have := g.1.2.1
              have := h.2.1.2.1
              omega
            · rw [g.2.2.2.2.1 2 (by omega) (by omega), c4]
              exact h.2.1.2.2.1
            · have := gP.2.2.2
              have := gP.1.2.1
              have := gP.1.1
              omega
            · rw [g.2.2.1, c6] at z
              omega
            · have := g.1.2.1
              have := h.2.2.2.2
              omega
          · next c8 =>
            refine ⟨⟨⟨c2.ok h.1.1, c2.2.2.2 h.1.2⟩, ⟨?_, ?_, ?_, ?_, ?_⟩, c5, ⟨Nat.le_of_eq c6, fun z => ?_⟩, ?_⟩, c2, fun z => absurd z c8⟩
            · rw [c4]; exact h.2.1.1
            · rw [c4]; have := h.2.1.2.1; omega
            · rw [c4]; exact h.2.1.2.2.1
            · rw [c4]; exact h.2.1.2.2.2.1
            · rw [c4]; exact h.2.1.2.2.2.2
            · rw [c6] at z; omega
            · have := h.2.2.2.2; omega
        · refine ⟨is.fls _ ⟨by omega, by omega⟩, as.trans (fls_adv is.1.1 ⟨by omega, by omega⟩), fun z => ?_⟩
          unfold MS.fls at z
          rw [if_pos (show S.see.err = 0 from h0)] at z
          have : (-2 : Int) = 0 := z
          omega
section
variable {v : Ev} {h : Hp} {top m : Nat} {S : MS}
theorem c_mStat (hI : I1 S) (h0 : S.err = 0) : Cal v mX11_statement 23 0 0 [.ref m] (mH v h m S) top (pV (mH v h m S.stm) top) noX := by
  have is := hI.see
  have he : inI S.err := hI.1.2
  have iS := (sts_I1 hI h0).1
  refine Cal.ofJ (by decide +kernel) rfl (Nat.le_of_ble_eq_true rfl) fun hz0 => ?_
  refine r_ls [some (.ref m), none] rfl ?_
  generalize hPo : pV (mH v h m S.stm) top = Po
  have fin : ∀ X o1, X = S.sts → J v mX11_statement (rmOf 23 0 0) (KM v Po noX 0 0) top 0 0 (mH v h m X) top 107 [some (.ref m), o1] [] := by
    intro X o1 hX
    rw [hX]
    refine r_aload_n (pc := 107) (i := 0) (tX11_statement.at 51 rfl) rfl rfl ?_
    refine r_bipush (pc := 108) (w := nI 59) (tX11_statement.at 52 rfl) (by decide) ?_
    refine r_callV (M' := mX11_wants) (pc := 110) (tX11_statement.at 53 rfl) ml_X11_133 rfl mw_X11_wants (fits_s (by omega) (by decide)) (mH_0) rfl rfl (c_mWants iS.1.1 iS.1.2 (by omega)) rfl rfl (Nat.le_of_ble_eq_true rfl) (Nat.le_of_ble_eq_true rfl) (Nat.le_of_ble_eq_true rfl) ?_
    rintro _ _ _ ⟨rfl, rfl, rfl⟩
    refine r_vret (pc := 113) (tX11_statement.at 54 rfl) rfl (Nat.le_of_ble_eq_true rfl) (Nat.le_of_ble_eq_true rfl) ?_
    subst hPo
    exact ⟨rfl, rfl, rfl⟩
  refine r_aload_n (pc := 0) (i := 0) (tX11_statement.at 0 rfl) rfl rfl ?_
  refine r_callV (M' := mX11_sees) (pc := 1) (tX11_statement.at 1 rfl) ml_X11_83 rfl mw_X11_sees (fits_s (by omega) (by decide)) (mH_0) rfl rfl (c_mSees hI.1.1) rfl rfl (Nat.le_of_ble_eq_true rfl) (Nat.le_of_ble_eq_true rfl) (Nat.le_of_ble_eq_true rfl) ?_
  rintro _ _ _ ⟨rfl, rfl, rfl⟩
  refine r_pop (pc := 4) (tX11_statement.at 2 rfl) rfl ?_
  refine r_aload_n (pc := 5) (i := 0) (tX11_statement.at 3 rfl) rfl rfl ?_
  refine r_get (pc := 6) (tX11_statement.at 4 rfl) gf_X11_77 (mH_0) rfl ?_
  refine r_eq rfl (st2 := [.int (nI S.kp)]) rfl ?_
  refine r_istore_n (pc := 9) (i := 1) (tX11_statement.at 5 rfl) rfl (by decide) ?_
  refine r_aload_n (pc := 10) (i := 0) (tX11_statement.at 6 rfl) rfl rfl ?_
  refine r_ldcS 26 (tx := "edge") (pc := 11) (tX11_statement.at 7 rfl) (by decide +kernel) ?_
  refine r_callV (M' := mX11_takes) (pc := 13) (tX11_statement.at 8 rfl) ml_X11_142 rfl mw_X11_takes (fits_s (by omega) (by decide)) (mH_0) rfl rfl (c_mTakes (i := 26) is.1.1 he (by decide +kernel)) rfl rfl (Nat.le_of_ble_eq_true rfl) (Nat.le_of_ble_eq_true rfl) (Nat.le_of_ble_eq_true rfl) ?_
  rintro _ _ _ ⟨rfl, rfl, rfl⟩
  cases h1 : S.see.tkB 26 with
  | true =>
    have it := is.tk 26
    rw [Bool.toNat_true]
    refine r_if_eqN (pc := 16) 26 (tX11_statement.at 9 rfl) (by decide) (by omega) (fun c => by omega) (fun _ => ?_)
    refine r_aload_n (pc := 19) (i := 0) (tX11_statement.at 10 rfl) rfl rfl ?_
    refine r_callV (M' := mX11_edgeLine) (pc := 20) (tX11_statement.at 11 rfl) ml_X11_166 rfl mw_X11_edgeLine (fits_s (by omega) (by decide)) (mH_0) rfl rfl (c_mEdgeL it.1.1 it.1.2 it.rd) rfl rfl (Nat.le_of_ble_eq_true rfl) (Nat.le_of_ble_eq_true rfl) (Nat.le_of_ble_eq_true rfl) ?_
    rintro _ _ _ ⟨rfl, rfl, rfl⟩
    refine r_goto (pc := 23) 107 (tX11_statement.at 12 rfl) (by decide) ?_
    exact fin _ _ (by rw [MS.sts, if_pos h1])
  | false =>
    rw [Bool.toNat_false, tkS_no hI.1.1 h0 h1]
    refine r_if_eqN (pc := 16) 26 (tX11_statement.at 9 rfl) (by decide) (by omega) (fun _ => ?_) (fun c => by omega)
    refine r_aload_n (pc := 26) (i := 0) (tX11_statement.at 13 rfl) rfl rfl ?_
    refine r_ldcS 27 (tx := "absorb") (pc := 27) (tX11_statement.at 14 rfl) (by decide +kernel) ?_
    refine r_callV (M' := mX11_takes) (pc := 29) (tX11_statement.at 15 rfl) ml_X11_142 rfl mw_X11_takes (fits_s (by omega) (by decide)) (mH_0) rfl rfl (c_mTakes (i := 27) is.1.1 he (by decide +kernel)) rfl rfl (Nat.le_of_ble_eq_true rfl) (Nat.le_of_ble_eq_true rfl) (Nat.le_of_ble_eq_true rfl) ?_
    rintro _ _ _ ⟨rfl, rfl, rfl⟩
    cases h2 : S.see.tkB 27 with
    | true =>
      have it := is.tk 27
      rw [Bool.toNat_true]
      refine r_if_eqN (pc := 32) 42 (tX11_statement.at 16 rfl) (by decide) (by omega) (fun c => by omega) (fun _ => ?_)
      refine r_aload_n (pc := 35) (i := 0) (tX11_statement.at 17 rfl) rfl rfl ?_
      refine r_callV (M' := mX11_absorbLine) (pc := 36) (tX11_statement.at 18 rfl) ml_X11_171 rfl mw_X11_absorbLine (fits_s (by omega) (by decide)) (mH_0) rfl rfl (c_mAbsL it.1.1 it.1.2 it.rd) rfl rfl (Nat.le_of_ble_eq_true rfl) (Nat.le_of_ble_eq_true rfl) (Nat.le_of_ble_eq_true rfl) ?_
      rintro _ _ _ ⟨rfl, rfl, rfl⟩
      refine r_goto (pc := 39) 107 (tX11_statement.at 19 rfl) (by decide) ?_
      exact fin _ _ (by rw [MS.sts, if_neg (by rw [h1]; simp), if_pos h2])
    | false =>
      rw [Bool.toNat_false, tkS_no hI.1.1 h0 h2]
      refine r_if_eqN (pc := 32) 42 (tX11_statement.at 16 rfl) (by decide) (by omega) (fun _ => ?_) (fun c => by omega)
      refine r_aload_n (pc := 42) (i := 0) (tX11_statement.at 20 rfl) rfl rfl ?_
      refine r_ldcS 28 (tx := "join") (pc := 43) (tX11_statement.at 21 rfl) (by decide +kernel) ?_
      refine r_callV (M' := mX11_takes) (pc := 45) (tX11_statement.at 22 rfl) ml_X11_142 rfl mw_X11_takes (fits_s (by omega) (by decide)) (mH_0) rfl rfl (c_mTakes (i := 28) is.1.1 he (by decide +kernel)) rfl rfl (Nat.le_of_ble_eq_true rfl) (Nat.le_of_ble_eq_true rfl) (Nat.le_of_ble_eq_true rfl) ?_
      rintro _ _ _ ⟨rfl, rfl, rfl⟩
      cases h3 : S.see.tkB 28 with
      | true =>
        have it := is.tk 28
        rw [Bool.toNat_true]
        refine r_if_eqN (pc := 48) 58 (tX11_statement.at 23 rfl) (by decide) (by omega) (fun c => by omega) (fun _ => ?_)
        refine r_aload_n (pc := 51) (i := 0) (tX11_statement.at 24 rfl) rfl rfl ?_
        refine r_callV (M' := mX11_joinLine) (pc := 52) (tX11_statement.at 25 rfl) ml_X11_176 rfl mw_X11_joinLine (fits_s (by omega) (by decide)) (mH_0) rfl rfl (c_mJoinL it.1.1 it.1.2 it.rd) rfl rfl (Nat.le_of_ble_eq_true rfl) (Nat.le_of_ble_eq_true rfl) (Nat.le_of_ble_eq_true rfl) ?_
        rintro _ _ _ ⟨rfl, rfl, rfl⟩
        refine r_goto (pc := 55) 107 (tX11_statement.at 26 rfl) (by decide) ?_
        exact fin _ _ (by rw [MS.sts, if_neg (by rw [h1]; simp), if_neg (by rw [h2]; simp), if_pos h3])
      | false =>
        rw [Bool.toNat_false, tkS_no hI.1.1 h0 h3]
        refine r_if_eqN (pc := 48) 58 (tX11_statement.at 23 rfl) (by decide) (by omega) (fun _ => ?_) (fun c => by omega)
        refine r_aload_n (pc := 58) (i := 0) (tX11_statement.at 27 rfl) rfl rfl ?_
        refine r_ldcS 29 (tx := "cost") (pc := 59) (tX11_statement.at 28 rfl) (by decide +kernel) ?_
        refine r_callV (M' := mX11_takes) (pc := 61) (tX11_statement.at 29 rfl) ml_X11_142 rfl mw_X11_takes (fits_s (by omega) (by decide)) (mH_0) rfl rfl (c_mTakes (i := 29) is.1.1 he (by decide +kernel)) rfl rfl (Nat.le_of_ble_eq_true rfl) (Nat.le_of_ble_eq_true rfl) (Nat.le_of_ble_eq_true rfl) ?_
        rintro _ _ _ ⟨rfl, rfl, rfl⟩
        cases h4 : S.see.tkB 29 with
        | true =>
          obtain ⟨c1, c2, c3, c4, c5, c6, c7⟩ := co_I1 hI h0 h4
          have hco : (S.see.tkS 29).hco = S.hco := (tkS_red (S := S.see)).2.1
          have hin : inI (S.see.tkS 29).err := by rw [(tkS_red (S := S.see)).2.2.2]; exact he
          have eS : S.sts = if S.co1.err = 0 then lvS 4 S.co1 else S.co1 := by rw [MS.sts, if_neg (by rw [h1]; simp), if_neg (by rw [h2]; simp), if_neg (by rw [h3]; simp), if_pos h4]
          have part2 : ∀ X : MS, X.s_hco 1 = S.co1 → J v mX11_statement (rmOf 23 0 0) (KM v Po noX 0 0) top 0 0 (mH v h m X) top 81 [some (.ref m), some (.int (nI S.kp))] [] := by
            intro X hX
            refine r_aload_n (pc := 81) (i := 0) (tX11_statement.at 38 rfl) rfl rfl ?_
            refine r_iconst (pc := 82) (w := nI 1) (tX11_statement.at 39 rfl) (by decide) ?_
            refine r_put (pc := 83) (tX11_statement.at 40 rfl) pf_X11_181 (mH_0) (Nat.le_of_ble_eq_true rfl) (rfl) (rfl) ?_
            refine r_eq (h2 := mH v h m (X.s_hco 1)) (mH_p0 (S' := X.s_hco 1) rfl) rfl ?_
            rw [hX]
            refine r_aload_n (pc := 86) (i := 0) (tX11_statement.at 41 rfl) rfl rfl ?_
            refine r_get (pc := 87) (tX11_statement.at 42 rfl) gf_X11_71 (mH_0) rfl ?_
            refine r_eq rfl (st2 := [.int (zI S.co1.err)]) rfl ?_
            refine r_err1 (pc := 90) 107 (tX11_statement.at 43 rfl) (by decide) (c2.2.2.2 he) (fun c8 => ?_) (fun c8 => ?_)
            · exact fin _ _ (by rw [eS, if_neg c8])
            · obtain ⟨d1, d2, d3⟩ := c1 c8
              obtain ⟨-, cS⟩ := lv_ok 4 (by omega) S.co1 d1 d2
              refine r_aload_n (pc := 93) (i := 0) (tX11_statement.at 44 rfl) rfl rfl ?_
              refine r_callV (M' := mX11_sum) (pc := 94) (tX11_statement.at 45 rfl) ml_X11_130 rfl mw_X11_sum (fits_s (by omega) (by decide)) (mH_0) rfl rfl (cS v h top m) rfl rfl (Nat.le_of_ble_eq_true rfl) (Nat.le_of_ble_eq_true rfl) (Nat.le_of_ble_eq_true rfl) ?_
              rintro _ _ _ ⟨rfl, rfl, rfl⟩
              refine r_goto (pc := 97) 107 (tX11_statement.at 46 rfl) (by decide) ?_
              exact fin _ _ (by rw [eS, if_pos c8])
          rw [Bool.toNat_true]
          refine r_if_eqN (pc := 64) 100 (tX11_statement.at 30 rfl) (by decide) (by omega) (fun c => by omega) (fun _ => ?_)
          refine r_aload_n (pc := 67) (i := 0) (tX11_statement.at 31 rfl) rfl rfl ?_
          refine r_get (pc := 68) (tX11_statement.at 32 rfl) gf_X11_181 (mH_0) rfl ?_
          refine r_eq rfl (st2 := [.int (nI S.hco)]) (by rw [← hco]; rfl) ?_
          by_cases c : S.hco = 0
          · rw [c]
            refine r_if_eq (pc := 71) 81 (tX11_statement.at 33 rfl) (by decide) (fun _ => ?_) (fun z => absurd (by decide) z)
            exact part2 _ (by rw [MS.co1, if_pos c])
          · refine r_if_eq (pc := 71) 81 (tX11_statement.at 33 rfl) (by decide) (fun z => ?_) (fun _ => ?_)
            · exact absurd ((nI_eq_iff (by have := hI.2.2.2.1.1; omega) (b := 0) (by omega)).mp z) c
            · refine r_aload_n (pc := 74) (i := 0) (tX11_statement.at 34 rfl) rfl rfl ?_
              refine r_bipush (pc := 75) (w := zI (-2)) (tX11_statement.at 35 rfl) (by decide) ?_
              refine r_iload_n (pc := 77) (i := 1) (tX11_statement.at 36 rfl) rfl rfl ?_
              refine r_callV (M' := mX11_fails) (pc := 78) (tX11_statement.at 37 rfl) ml_X11_96 rfl mw_X11_fails (fits_s (by omega) (by decide)) (mH_0) rfl rfl (c_mFails hin) rfl rfl (Nat.le_of_ble_eq_true rfl) (Nat.le_of_ble_eq_true rfl) (Nat.le_of_ble_eq_true rfl) ?_
              rintro _ _ _ ⟨rfl, rfl, rfl⟩
              exact part2 _ (by rw [MS.co1, if_neg c])
        | false =>
          rw [Bool.toNat_false, tkS_no hI.1.1 h0 h4]
          refine r_if_eqN (pc := 64) 100 (tX11_statement.at 30 rfl) (by decide) (by omega) (fun _ => ?_) (fun c => by omega)
          refine r_aload_n (pc := 100) (i := 0) (tX11_statement.at 47 rfl) rfl rfl ?_
          refine r_bipush (pc := 101) (w := zI (-2)) (tX11_statement.at 48 rfl) (by decide) ?_
          refine r_iload_n (pc := 103) (i := 1) (tX11_statement.at 49 rfl) rfl rfl ?_
          refine r_callV (M' := mX11_fails) (pc := 104) (tX11_statement.at 50 rfl) ml_X11_96 rfl mw_X11_fails (fits_s (by omega) (by decide)) (mH_0) rfl rfl (c_mFails (S := S.see) he) rfl rfl (Nat.le_of_ble_eq_true rfl) (Nat.le_of_ble_eq_true rfl) (Nat.le_of_ble_eq_true rfl) ?_
          rintro _ _ _ ⟨rfl, rfl, rfl⟩
          exact fin _ _ (by rw [MS.sts, if_neg (by rw [h1]; simp), if_neg (by rw [h2]; simp), if_neg (by rw [h3]; simp), if_neg (by rw [h4]; simp)])
end

