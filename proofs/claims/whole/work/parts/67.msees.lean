/-! ===== the reference: reading ===== -/
def skP (b : Nat → Nat) (len a : Nat) : Nat := a + fstN (fun j => decide (b (a + j) ≠ 32)) (len - a)
def MS.kp (S : MS) : Nat := skP S.txt S.siz S.nxt
def MS.sv (S : MS) : Int := if S.kp < S.siz then (S.txt S.kp : Nat) else -1
def MS.see (S : MS) : MS := S.s_nxt S.kp
def MS.ke (S : MS) : Nat := S.kp + ltN S.txt S.siz S.kp
def okP (S : MS) : Prop := S.siz ≤ 600 ∧ S.nxt ≤ S.siz ∧ ∀ k, S.txt k < 256
theorem skP_is {b : Nat → Nat} {len a p : Nat} (h1 : a ≤ p) (h2 : p ≤ len) (h3 : ∀ j, a ≤ j → j < p → b j = 32) (h4 : p = len ∨ b p ≠ 32) : skP b len a = p := by
  unfold skP
  rw [fstN_is (k := p - a) (by omega) (fun j hj => decide_eq_false (fun z => z (h3 _ (by omega) (by omega)))) ?_]
  · omega
  · rcases h4 with h4 | h4
    · exact Or.inl (by omega)
    · right
      rw [show a + (p - a) = p by omega]
      exact decide_eq_true h4
theorem skP_le {b : Nat → Nat} {len a : Nat} (h : a ≤ len) : a ≤ skP b len a ∧ skP b len a ≤ len ∧ (skP b len a < len → b (skP b len a) ≠ 32) ∧ ∀ j, a ≤ j → j < skP b len a → b j = 32 := by
  obtain ⟨f1, f2, f3⟩ := fstN_spec (fun j => decide (b (a + j) ≠ 32)) (len - a)
  unfold skP
  refine ⟨by omega, by omega, fun q => of_decide_eq_true (f3 (by omega)), fun j h1 h2 => ?_⟩
  have := f2 (j - a) (by omega)
  rw [show a + (j - a) = j by omega] at this
  have := of_decide_eq_false this
  omega
theorem skP_idem {b : Nat → Nat} {len a : Nat} (h : a ≤ len) : skP b len (skP b len a) = skP b len a := by
  obtain ⟨h1, h2, h3, h4⟩ := skP_le (b := b) h
  refine skP_is (Nat.le_refl _) h2 (fun j g1 g2 => by omega) ?_
  rcases Nat.lt_or_ge (skP b len a) len with q | q
  · exact Or.inr (h3 q)
  · exact Or.inl (by omega)
theorem okP.kp {S : MS} (h : okP S) : S.nxt ≤ S.kp ∧ S.kp ≤ S.siz := ⟨(skP_le h.2.1).1, (skP_le h.2.1).2.1⟩
theorem okP.see {S : MS} (h : okP S) : okP S.see ∧ S.see.kp = S.kp := ⟨⟨h.1, h.kp.2, h.2.2⟩, skP_idem h.2.1⟩
theorem ltN_le (b : Nat → Nat) (len a : Nat) : ltN b len a ≤ len - a := fstN_le _ _
theorem dgN_le (b : Nat → Nat) (len a : Nat) : dgN b len a ≤ len - a := fstN_le _ _
theorem okP.ke {S : MS} (h : okP S) : S.kp ≤ S.ke ∧ S.ke ≤ S.siz := by
  have h1 := h.kp
  have h2 := ltN_le S.txt S.siz S.kp
  unfold MS.ke
  omega
def MS.fls (S : MS) (c : Int) (a : Nat) : MS := if S.err = 0 then (S.s_err c).s_plc a else S
def MS.tkB (S : MS) (i : Nat) : Bool := decide (S.err = 0) && wdEq S.txt S.kp S.ke i
def MS.tkS (S : MS) (i : Nat) : MS := if S.err = 0 then (if wdEq S.txt S.kp S.ke i = true then S.s_nxt S.ke else S.see) else S
def MS.wan (S : MS) (c : Nat) : MS := if S.err = 0 then (if S.sv = c then S.s_nxt (S.kp + 1) else S.see.fls (-2) S.kp) else S
def MS.dgB (S : MS) : Bool := decide (48 ≤ S.sv ∧ S.sv ≤ 57)
def numR (b : Nat → Nat) (a : Nat) : Nat → Nat
  | 0 => 0
  | k + 1 => min 1000000 (10 * numR b a k + b (a + k) - 48)
theorem numR_le (b : Nat → Nat) (a : Nat) : ∀ k, numR b a k ≤ 1000000
  | 0 => by simp [numR]
  | k + 1 => by rw [numR]; omega
/-- a number is read -/
def MS.rdK (S : MS) : Nat := dgN S.txt S.siz S.kp
def MS.rdV (S : MS) : Nat := numR S.txt S.kp S.rdK
def MS.rdS (S : MS) (a b : Int) : MS := if S.err = 0 then (if S.dgB = true then (if a ≤ S.rdV ∧ (S.rdV : Int) ≤ b then (S.s_beg S.kp).s_nxt (S.kp + S.rdK) else ((S.s_beg S.kp).s_nxt (S.kp + S.rdK)).fls (-3) S.kp) else S.see.fls (-2) S.kp) else S
def MS.rdR (S : MS) (a b : Int) : Nat := if S.err = 0 ∧ S.dgB = true ∧ (a ≤ S.rdV ∧ (S.rdV : Int) ≤ b) then S.rdV else 0
def MS.cod (S : MS) (k w : Nat) : MS := if S.err = 0 then S.s_red (upN (upN (upN S.red (56 + 2 * S.red 3) k) (56 + 2 * S.red 3 + 1) w) 3 (S.red 3 + 1)) else S
section
variable {v : Ev} {h : Hp} {top m : Nat} {S : MS}
theorem c_mSees (ok : okP S) : Cal v mX11_sees 1 0 0 [.ref m] (mH v h m S) top (pR (.int (zI S.sv)) (mH v h m S.see) top) noX := by
  obtain ⟨o1, o2, o3⟩ := ok
  refine Cal.ofJ (by decide +kernel) rfl (Nat.le_of_ble_eq_true rfl) fun hz0 => ?_
  refine r_ls [some (.ref m)] rfl ?_
  generalize hPo : pR (.int (zI S.sv)) (mH v h m S.see) top = Po
  have key : ∀ q p, p + q = S.siz → S.nxt ≤ p → (∀ j, S.nxt ≤ j → j < p → S.txt j = 32) → J v mX11_sees (rmOf 1 0 0) (KM v Po noX 0 0) top 0 0 (mH v h m (S.s_nxt p)) top 0 [some (.ref m)] [] := by
    intro q
    induction q with
    | zero =>
      intro p hp h1 h2
      have hp : p = S.siz := by omega
      have e : S.kp = p := skP_is h1 (by omega) h2 (Or.inl hp)
      refine r_aload_n (pc := 0) (i := 0) (tX11_sees.at 0 rfl) rfl rfl ?_
      refine r_get (pc := 1) (tX11_sees.at 1 rfl) gf_X11_77 (mH_0) rfl ?_
      refine r_aload_n (pc := 4) (i := 0) (tX11_sees.at 2 rfl) rfl rfl ?_
      refine r_get (pc := 5) (tX11_sees.at 3 rfl) gf_X11_80 (mH_0) rfl ?_
      refine r_eq rfl (st2 := [.int (nI S.siz), .int (nI p)]) rfl ?_
      refine r_icmp_geN (pc := 8) 38 (tX11_sees.at 4 rfl) (by decide) (by omega) (by omega) (fun _ => ?_) (fun c => by omega)
      refine r_aload_n (pc := 38) (i := 0) (tX11_sees.at 19 rfl) rfl rfl ?_
      refine r_get (pc := 39) (tX11_sees.at 20 rfl) gf_X11_77 (mH_0) rfl ?_
      refine r_aload_n (pc := 42) (i := 0) (tX11_sees.at 21 rfl) rfl rfl ?_
      refine r_get (pc := 43) (tX11_sees.at 22 rfl) gf_X11_80 (mH_0) rfl ?_
      refine r_eq rfl (st2 := [.int (nI S.siz), .int (nI p)]) rfl ?_
      refine r_icmp_geN (pc := 46) 61 (tX11_sees.at 23 rfl) (by decide) (by omega) (by omega) (fun _ => ?_) (fun c => by omega)
      refine r_iconst (pc := 61) (w := zI (-1)) (tX11_sees.at 30 rfl) (by decide) ?_
      refine r_iret (pc := 62) (tX11_sees.at 31 rfl) rfl (Nat.le_of_ble_eq_true rfl) (Nat.le_of_ble_eq_true rfl) ?_
      subst hPo
      exact ⟨by rw [MS.sv, e, if_neg (by omega)], by rw [MS.see, e], rfl⟩
    | succ q ih =>
      intro p hp h1 h2
      have h3 := o3 p
      refine r_aload_n (pc := 0) (i := 0) (tX11_sees.at 0 rfl) rfl rfl ?_
      refine r_get (pc := 1) (tX11_sees.at 1 rfl) gf_X11_77 (mH_0) rfl ?_
      refine r_aload_n (pc := 4) (i := 0) (tX11_sees.at 2 rfl) rfl rfl ?_
      refine r_get (pc := 5) (tX11_sees.at 3 rfl) gf_X11_80 (mH_0) rfl ?_
      refine r_eq rfl (st2 := [.int (nI S.siz), .int (nI p)]) rfl ?_
      refine r_icmp_geN (pc := 8) 38 (tX11_sees.at 4 rfl) (by decide) (by omega) (by omega) (fun c => by omega) (fun _ => ?_)
      refine r_aload_n (pc := 11) (i := 0) (tX11_sees.at 5 rfl) rfl rfl ?_
      refine r_get (pc := 12) (tX11_sees.at 6 rfl) gf_X11_16 (mH_0) rfl ?_
      refine r_aload_n (pc := 15) (i := 0) (tX11_sees.at 7 rfl) rfl rfl ?_
      refine r_get (pc := 16) (tX11_sees.at 8 rfl) gf_X11_77 (mH_0) rfl ?_
      refine r_eq rfl (st2 := [.int (nI p), .ref (m + 3)]) rfl ?_
      refine r_iald (pc := 19) (tX11_sees.at 9 rfl) (mH_txt) (p) (rfl) (by omega) (Nat.le_of_ble_eq_true rfl) ?_
      refine r_bipush (pc := 20) (w := nI 32) (tX11_sees.at 10 rfl) (by decide) ?_
      refine r_eq rfl (st2 := [.int (nI 32), .int (nI (S.txt p))]) rfl ?_
      refine r_icmp_neN (pc := 22) 38 (tX11_sees.at 11 rfl) (by decide) (by omega) (by omega) (fun c => ?_) (fun c => ?_)
      · have e : S.kp = p := skP_is h1 (by omega) h2 (Or.inr c)
        refine r_aload_n (pc := 38) (i := 0) (tX11_sees.at 19 rfl) rfl rfl ?_
        refine r_get (pc := 39) (tX11_sees.at 20 rfl) gf_X11_77 (mH_0) rfl ?_
        refine r_aload_n (pc := 42) (i := 0) (tX11_sees.at 21 rfl) rfl rfl ?_
        refine r_get (pc := 43) (tX11_sees.at 22 rfl) gf_X11_80 (mH_0) rfl ?_
        refine r_eq rfl (st2 := [.int (nI S.siz), .int (nI p)]) rfl ?_
        refine r_icmp_geN (pc := 46) 61 (tX11_sees.at 23 rfl) (by decide) (by omega) (by omega) (fun c => by omega) (fun _ => ?_)
        refine r_aload_n (pc := 49) (i := 0) (tX11_sees.at 24 rfl) rfl rfl ?_
        refine r_get (pc := 50) (tX11_sees.at 25 rfl) gf_X11_16 (mH_0) rfl ?_
        refine r_aload_n (pc := 53) (i := 0) (tX11_sees.at 26 rfl) rfl rfl ?_
        refine r_get (pc := 54) (tX11_sees.at 27 rfl) gf_X11_77 (mH_0) rfl ?_
        refine r_eq rfl (st2 := [.int (nI p), .ref (m + 3)]) rfl ?_
        refine r_iald (pc := 57) (tX11_sees.at 28 rfl) (mH_txt) (p) (rfl) (by omega) (Nat.le_of_ble_eq_true rfl) ?_
        refine r_goto (pc := 58) 62 (tX11_sees.at 29 rfl) (by decide) ?_
        refine r_eq rfl (st2 := [.int (zI (S.txt p : Nat))]) (by rw [zI_nat]; rfl) ?_
        refine r_iret (pc := 62) (tX11_sees.at 31 rfl) rfl (Nat.le_of_ble_eq_true rfl) (Nat.le_of_ble_eq_true rfl) ?_
        subst hPo
        exact ⟨by rw [MS.sv, e, if_pos (by omega)], by rw [MS.see, e], rfl⟩
      · refine r_aload_n (pc := 25) (i := 0) (tX11_sees.at 12 rfl) rfl rfl ?_
        refine r_dup (pc := 26) (tX11_sees.at 13 rfl) rfl ?_
        refine r_get (pc := 27) (tX11_sees.at 14 rfl) gf_X11_77 (mH_0) rfl ?_
        refine r_eq rfl (st2 := [.int (nI p), .ref m]) rfl ?_
        refine r_iconst (pc := 30) (w := nI 1) (tX11_sees.at 15 rfl) (by decide) ?_
        first | refine r_iaddN (pc := 31) (tX11_sees.at 16 rfl) ?_ | refine r_iaddZ (pc := 31) (tX11_sees.at 16 rfl) ?_ | refine r_iadd (pc := 31) (tX11_sees.at 16 rfl) ?_
        refine r_put (pc := 32) (tX11_sees.at 17 rfl) pf_X11_77 (mH_0) (Nat.le_of_ble_eq_true rfl) (rfl) (rfl) ?_
        refine r_eq (h2 := mH v h m (S.s_nxt (p + 1))) (mH_p0 (S' := S.s_nxt (p + 1)) rfl) rfl ?_
        refine r_goto (pc := 35) 0 (tX11_sees.at 18 rfl) (by decide) ?_
        refine ih (p + 1) (by omega) (by omega) (fun j g1 g2 => ?_)
        by_cases h4 : j = p
        · rw [h4]; exact c
        · exact h2 j g1 (by omega)
  refine r_eq (h2 := mH v h m (S.s_nxt S.nxt)) rfl rfl ?_
  exact key (S.siz - S.nxt) S.nxt (by omega) (Nat.le_refl _) (fun j h1 h2 => by omega)
theorem c_mFails {c : Int} {a : Nat} (he : inI S.err) : Cal v mX11_fails 1 0 0 [.ref m, .int (zI c), .int (nI a)] (mH v h m S) top (pV (mH v h m (S.fls c a)) top) noX := by
  obtain ⟨e1, e2⟩ := he
  refine Cal.ofJ (by decide +kernel) rfl (Nat.le_of_ble_eq_true rfl) fun hz0 => ?_
  refine r_ls [some (.ref m), some (.int (zI c)), some (.int (nI a))] rfl ?_
  refine r_aload_n (pc := 0) (i := 0) (tX11_fails.at 0 rfl) rfl rfl ?_
  refine r_get (pc := 1) (tX11_fails.at 1 rfl) gf_X11_71 (mH_0) rfl ?_
  refine r_eq rfl (st2 := [.int (zI S.err)]) rfl ?_
  by_cases q : S.err = 0
  · rw [q]
    refine r_if_eq (pc := 4) 8 (tX11_fails.at 2 rfl) (by decide) (fun _ => ?_) (fun z => absurd (by decide) z)
    refine r_aload_n (pc := 8) (i := 0) (tX11_fails.at 4 rfl) rfl rfl ?_
    refine r_iload_n (pc := 9) (i := 1) (tX11_fails.at 5 rfl) rfl rfl ?_
    refine r_put (pc := 10) (tX11_fails.at 6 rfl) pf_X11_71 (mH_0) (Nat.le_of_ble_eq_true rfl) (rfl) (rfl) ?_
    refine r_eq (h2 := mH v h m (S.s_err c)) (mH_p0 (S' := S.s_err c) rfl) rfl ?_
    refine r_aload_n (pc := 13) (i := 0) (tX11_fails.at 7 rfl) rfl rfl ?_
    refine r_iload_n (pc := 14) (i := 2) (tX11_fails.at 8 rfl) rfl rfl ?_
    refine r_put (pc := 15) (tX11_fails.at 9 rfl) pf_X11_74 (mH_0) (Nat.le_of_ble_eq_true rfl) (rfl) (rfl) ?_
    refine r_eq (h2 := mH v h m ((S.s_err c).s_plc a)) (mH_p0 (S' := (S.s_err c).s_plc a) rfl) rfl ?_
    refine r_vret (pc := 18) (tX11_fails.at 10 rfl) rfl (Nat.le_of_ble_eq_true rfl) (Nat.le_of_ble_eq_true rfl) ?_
    rw [MS.fls, if_pos q]
    exact ⟨rfl, rfl, rfl⟩
  · refine r_if_eq (pc := 4) 8 (tX11_fails.at 2 rfl) (by decide) (fun z => absurd ((zI_eq ⟨e1, e2⟩ (b := 0) ⟨by omega, by omega⟩).mp z) q) (fun _ => ?_)
    refine r_vret (pc := 7) (tX11_fails.at 3 rfl) rfl (Nat.le_of_ble_eq_true rfl) (Nat.le_of_ble_eq_true rfl) ?_
    rw [MS.fls, if_neg q]
    exact ⟨rfl, rfl, rfl⟩
theorem r_err0 {M : Md} {R : Room} {K : List Frame → Array Value → State → State → Prop} {t0 cells slots : Nat} {h : Hp} {top pc : Nat} {ls : List (Option Value)} {st : List Value} {z : Int} {off : Int} (tgt : Nat) (d : decode M.2.1 pc = .ok (.ifCond .eq off, 3)) (ht : (pc : Int) + off = (tgt : Int)) (hz : inI z) (kt : z = 0 → J v M R K t0 cells slots h top tgt ls st) (kf : z ≠ 0 → J v M R K t0 cells slots h top (pc + 3) ls st) : J v M R K t0 cells slots h top pc ls (.int (zI z) :: st) :=
  r_if_eq tgt d ht (fun q => kt ((zI_eq hz (b := 0) ⟨by omega, by omega⟩).mp q)) (fun q => kf (fun z => q (by rw [z]; rfl)))
theorem r_err1 {M : Md} {R : Room} {K : List Frame → Array Value → State → State → Prop} {t0 cells slots : Nat} {h : Hp} {top pc : Nat} {ls : List (Option Value)} {st : List Value} {z : Int} {off : Int} (tgt : Nat) (d : decode M.2.1 pc = .ok (.ifCond .ne off, 3)) (ht : (pc : Int) + off = (tgt : Int)) (hz : inI z) (kt : z ≠ 0 → J v M R K t0 cells slots h top tgt ls st) (kf : z = 0 → J v M R K t0 cells slots h top (pc + 3) ls st) : J v M R K t0 cells slots h top pc ls (.int (zI z) :: st) :=
  r_if_ne tgt d ht (fun q => kt (fun z => q (by rw [z]; rfl))) (fun q => kf ((zI_eq hz (b := 0) ⟨by omega, by omega⟩).mp q))
theorem c_mTakes {i : Nat} (ok : okP S) (he : inI S.err) (hi : stRead i = true) : Cal v mX11_takes 6 0 0 [.ref m, .ref (oA v (i + 1))] (mH v h m S) top (pR (.int (nI (Bool.toNat (S.tkB i)))) (mH v h m (S.tkS i)) top) noX := by
  obtain ⟨b1, b2⟩ := stText_b i (stRead_lt hi) hi
  obtain ⟨p1, p2⟩ := ok.kp
  obtain ⟨q1, q2⟩ := ok.ke
  have ok2 := ok
  obtain ⟨o1, o2, o3⟩ := ok
  refine Cal.ofJ (by decide +kernel) rfl (Nat.le_of_ble_eq_true rfl) fun hz0 => ?_
  refine r_ls [some (.ref m), some (.ref (oA v (i + 1))), none, none, none] rfl ?_
  generalize hPo : pR (.int (nI (Bool.toNat (S.tkB i)))) (mH v h m (S.tkS i)) top = Po
  refine r_aload_n (pc := 0) (i := 0) (tX11_takes.at 0 rfl) rfl rfl ?_
  refine r_get (pc := 1) (tX11_takes.at 1 rfl) gf_X11_71 (mH_0) rfl ?_
  refine r_eq rfl (st2 := [.int (zI S.err)]) rfl ?_
  refine r_err0 (pc := 4) 9 (tX11_takes.at 2 rfl) (by decide) he (fun c0 => ?_) (fun c0 => ?_)
  · refine r_aload_n (pc := 9) (i := 0) (tX11_takes.at 5 rfl) rfl rfl ?_
    refine r_callV (M' := mX11_sees) (pc := 10) (tX11_takes.at 6 rfl) ml_X11_83 rfl mw_X11_sees ⟨by decide, by decide⟩ (mH_0) rfl rfl (c_mSees ok2) rfl rfl (Nat.le_of_ble_eq_true rfl) (Nat.le_of_ble_eq_true rfl) (Nat.le_of_ble_eq_true rfl) ?_
    rintro _ _ _ ⟨rfl, rfl, rfl⟩
    refine r_pop (pc := 13) (tX11_takes.at 7 rfl) rfl ?_
    refine r_aload_n (pc := 14) (i := 0) (tX11_takes.at 8 rfl) rfl rfl ?_
    refine r_get (pc := 15) (tX11_takes.at 9 rfl) gf_X11_77 (mH_0) rfl ?_
    refine r_istore_n (pc := 18) (i := 2) (tX11_takes.at 10 rfl) rfl (by decide) ?_
    refine r_ls [some (.ref m), some (.ref (oA v (i + 1))), some (.int (nI S.kp)), none, none] rfl ?_
    -- behind the letters
    have part2 : J v mX11_takes (rmOf 6 0 0) (KM v Po noX 0 0) top 0 0 (mH v h m S.see) top 55 [some (.ref m), some (.ref (oA v (i + 1))), some (.int (nI S.ke)), none, none] [] := by
      have fin : ∀ b : Bool, b = wdEq S.txt S.kp S.ke i → ∀ o4, J v mX11_takes (rmOf 6 0 0) (KM v Po noX 0 0) top 0 0 (mH v h m S.see) top 123 [some (.ref m), some (.ref (oA v (i + 1))), some (.int (nI S.ke)), some (.int (nI (Bool.toNat b))), o4] [] := by
        intro b hb o4
        refine r_iload_n (pc := 123) (i := 3) (tX11_takes.at 65 rfl) rfl rfl ?_
        cases b with
        | true =>
          rw [Bool.toNat_true]
          refine r_if_eqN (pc := 124) 132 (tX11_takes.at 66 rfl) (by decide) (by omega) (fun c => by omega) (fun _ => ?_)
          refine r_aload_n (pc := 127) (i := 0) (tX11_takes.at 67 rfl) rfl rfl ?_
          refine r_iload_n (pc := 128) (i := 2) (tX11_takes.at 68 rfl) rfl rfl ?_
          refine r_put (pc := 129) (tX11_takes.at 69 rfl) pf_X11_77 (mH_0) (Nat.le_of_ble_eq_true rfl) (rfl) (rfl) ?_
          refine r_eq (h2 := mH v h m (S.s_nxt S.ke)) (mH_p0 (S' := S.s_nxt S.ke) rfl) rfl ?_
          refine r_iload_n (pc := 132) (i := 3) (tX11_takes.at 70 rfl) rfl rfl ?_
          refine r_zret (pc := 133) (tX11_takes.at 71 rfl) rfl (rfl) (Nat.le_of_ble_eq_true rfl) (Nat.le_of_ble_eq_true rfl) ?_
          subst hPo
          exact ⟨by rw [MS.tkB, ← hb, decide_eq_true c0]; rfl, by rw [MS.tkS, if_pos c0, ← hb, if_pos rfl], rfl⟩
        | false =>
          rw [Bool.toNat_false]
          refine r_if_eqN (pc := 124) 132 (tX11_takes.at 66 rfl) (by decide) (by omega) (fun _ => ?_) (fun c => by omega)
          refine r_iload_n (pc := 132) (i := 3) (tX11_takes.at 70 rfl) rfl rfl ?_
          refine r_zret (pc := 133) (tX11_takes.at 71 rfl) rfl (rfl) (Nat.le_of_ble_eq_true rfl) (Nat.le_of_ble_eq_true rfl) ?_
          subst hPo
          exact ⟨by rw [MS.tkB, ← hb, decide_eq_true c0]; rfl, by rw [MS.tkS, if_pos c0, ← hb, if_neg (by simp)], rfl⟩
      have loop : ∀ q k (s : Bool), k + q = (stText i).length → (s = true ↔ S.ke - S.kp = (stText i).length ∧ ∀ j, j < k → S.txt (S.kp + j) = (stText i).getD j 0) → J v mX11_takes (rmOf 6 0 0) (KM v Po noX 0 0) top 0 0 (mH v h m S.see) top 77 [some (.ref m), some (.ref (oA v (i + 1))), some (.int (nI S.ke)), some (.int (nI (Bool.toNat s))), some (.int (nI k))] [] := by
        intro q
        induction q with
        | zero =>
          intro k s hk hs
          have es : s = wdEq S.txt S.kp S.ke i := by
            unfold wdEq
            rw [show k = (stText i).length by omega] at hs
            cases s with
            | true => exact (decide_eq_true (hs.mp rfl)).symm
            | false =>
              refine (decide_eq_false (fun z => ?_)).symm
              have := hs.mpr z
              cases this
          refine r_iload_n (pc := 77) (i := 3) (tX11_takes.at 42 rfl) rfl rfl ?_
          cases s with
          | false =>
            rw [Bool.toNat_false]
            refine r_if_eqN (pc := 78) 123 (tX11_takes.at 43 rfl) (by decide) (by omega) (fun _ => ?_) (fun c => by omega)
            exact fin false es _
          | true =>
            rw [Bool.toNat_true]
            refine r_if_eqN (pc := 78) 123 (tX11_takes.at 43 rfl) (by decide) (by omega) (fun c => by omega) (fun _ => ?_)
            refine r_iload (pc := 81) (i := 4) (tX11_takes.at 44 rfl) rfl ?_
            refine r_aload_n (pc := 83) (i := 1) (tX11_takes.at 45 rfl) rfl rfl ?_
            refine r_callT (M' := mJ0_length_8abf5) (pc := 84) (tX11_takes.at 46 rfl) ml_X11_87 rfl mw_J0_length_8abf5 ⟨by decide, by decide⟩ hi rfl (c_strLen hi) rfl rfl (Nat.le_of_ble_eq_true rfl) (Nat.le_of_ble_eq_true rfl) (Nat.le_of_ble_eq_true rfl) ?_
            rintro _ _ _ ⟨rfl, rfl, rfl⟩
            refine r_icmp_geN (pc := 87) 123 (tX11_takes.at 47 rfl) (by decide) (by omega) (by omega) (fun _ => ?_) (fun c => by omega)
            exact fin true es _
        | succ q ih =>
          intro k s hk hs
          refine r_iload_n (pc := 77) (i := 3) (tX11_takes.at 42 rfl) rfl rfl ?_
          cases s with
          | false =>
            rw [Bool.toNat_false]
            refine r_if_eqN (pc := 78) 123 (tX11_takes.at 43 rfl) (by decide) (by omega) (fun _ => ?_) (fun c => by omega)
            refine fin false ?_ _
            refine (decide_eq_false (fun z => ?_)).symm
            have := hs.mpr ⟨z.1, fun j hj => z.2 j (by omega)⟩
            cases this
          | true =>
            obtain ⟨s1, s2⟩ := hs.mp rfl
            have h3 := o3 (S.kp + k)
            have h4 := b2 k (by omega)
            rw [Bool.toNat_true]
            refine r_if_eqN (pc := 78) 123 (tX11_takes.at 43 rfl) (by decide) (by omega) (fun c => by omega) (fun _ => ?_)
            refine r_iload (pc := 81) (i := 4) (tX11_takes.at 44 rfl) rfl ?_
            refine r_aload_n (pc := 83) (i := 1) (tX11_takes.at 45 rfl) rfl rfl ?_
            refine r_callT (M' := mJ0_length_8abf5) (pc := 84) (tX11_takes.at 46 rfl) ml_X11_87 rfl mw_J0_length_8abf5 ⟨by decide, by decide⟩ hi rfl (c_strLen hi) rfl rfl (Nat.le_of_ble_eq_true rfl) (Nat.le_of_ble_eq_true rfl) (Nat.le_of_ble_eq_true rfl) ?_
            rintro _ _ _ ⟨rfl, rfl, rfl⟩
            refine r_icmp_geN (pc := 87) 123 (tX11_takes.at 47 rfl) (by decide) (by omega) (by omega) (fun c => by omega) (fun _ => ?_)
            refine r_aload_n (pc := 90) (i := 0) (tX11_takes.at 48 rfl) rfl rfl ?_
            refine r_get (pc := 91) (tX11_takes.at 49 rfl) gf_X11_16 (mH_0) rfl ?_
            refine r_aload_n (pc := 94) (i := 0) (tX11_takes.at 50 rfl) rfl rfl ?_
            refine r_get (pc := 95) (tX11_takes.at 51 rfl) gf_X11_77 (mH_0) rfl ?_
            refine r_eq rfl (st2 := [.int (nI S.kp), .ref (m + 3)]) rfl ?_
            refine r_iload (pc := 98) (i := 4) (tX11_takes.at 52 rfl) rfl ?_
            first | refine r_iaddN (pc := 100) (tX11_takes.at 53 rfl) ?_ | refine r_iaddZ (pc := 100) (tX11_takes.at 53 rfl) ?_ | refine r_iadd (pc := 100) (tX11_takes.at 53 rfl) ?_
            refine r_iald (pc := 101) (tX11_takes.at 54 rfl) (mH_txt) (S.kp + k) (rfl) (by omega) (Nat.le_of_ble_eq_true rfl) ?_
            refine r_eq rfl (st2 := [.int (nI (S.txt (S.kp + k)))]) rfl ?_
            refine r_aload_n (pc := 102) (i := 1) (tX11_takes.at 55 rfl) rfl rfl ?_
            refine r_iload (pc := 103) (i := 4) (tX11_takes.at 56 rfl) rfl ?_
            refine r_callT (M' := mJ0_charAt_5068e) (pc := 105) (tX11_takes.at 57 rfl) ml_X11_92 rfl mw_J0_charAt_5068e ⟨by decide, by decide⟩ hi rfl (c_charAt hi (j := k) (by omega)) rfl rfl (Nat.le_of_ble_eq_true rfl) (Nat.le_of_ble_eq_true rfl) (Nat.le_of_ble_eq_true rfl) ?_
            rintro _ _ _ ⟨rfl, rfl, rfl⟩
            refine r_eq rfl (st2 := [.int (nI ((stText i).getD k 0)), .int (nI (S.txt (S.kp + k)))]) rfl ?_
            refine r_icmp_neN (pc := 108) 115 (tX11_takes.at 58 rfl) (by decide) (by omega) (by omega) (fun c2 => ?_) (fun c2 => ?_)
            · refine r_iconst (pc := 115) (w := nI (Bool.toNat false)) (tX11_takes.at 61 rfl) (by decide) ?_
              refine r_istore_n (pc := 116) (i := 3) (tX11_takes.at 62 rfl) rfl (by decide) ?_
              first | refine r_iincN (pc := 117) (tX11_takes.at 63 rfl) rfl (by decide) ?_ | refine r_iinc (pc := 117) (tX11_takes.at 63 rfl) rfl rfl (by decide) ?_
              refine r_goto (pc := 120) 77 (tX11_takes.at 64 rfl) (by decide) ?_
              refine ih (k + 1) false (by omega) ⟨(fun z => by cases z), fun z => ?_⟩
              exact absurd (z.2 k (by omega)) c2
            · refine r_iconst (pc := 111) (w := nI (Bool.toNat true)) (tX11_takes.at 59 rfl) (by decide) ?_
              refine r_goto (pc := 112) 116 (tX11_takes.at 60 rfl) (by decide) ?_
              refine r_istore_n (pc := 116) (i := 3) (tX11_takes.at 62 rfl) rfl (by decide) ?_
              first | refine r_iincN (pc := 117) (tX11_takes.at 63 rfl) rfl (by decide) ?_ | refine r_iinc (pc := 117) (tX11_takes.at 63 rfl) rfl rfl (by decide) ?_
              refine r_goto (pc := 120) 77 (tX11_takes.at 64 rfl) (by decide) ?_
              refine ih (k + 1) true (by omega) ⟨fun _ => ⟨s1, fun j hj => ?_⟩, fun _ => rfl⟩
              by_cases h5 : j = k
              · rw [h5]; exact c2
              · exact s2 j (by omega)
      refine r_iload_n (pc := 55) (i := 2) (tX11_takes.at 29 rfl) rfl rfl ?_
      refine r_aload_n (pc := 56) (i := 0) (tX11_takes.at 30 rfl) rfl rfl ?_
      refine r_get (pc := 57) (tX11_takes.at 31 rfl) gf_X11_77 (mH_0) rfl ?_
      refine r_eq rfl (st2 := [.int (nI S.kp), .int (nI S.ke)]) rfl ?_
      refine r_isubN (pc := 60) (tX11_takes.at 32 rfl) (by omega) ?_
      refine r_aload_n (pc := 61) (i := 1) (tX11_takes.at 33 rfl) rfl rfl ?_
      refine r_callT (M' := mJ0_length_8abf5) (pc := 62) (tX11_takes.at 34 rfl) ml_X11_87 rfl mw_J0_length_8abf5 ⟨by decide, by decide⟩ hi rfl (c_strLen hi) rfl rfl (Nat.le_of_ble_eq_true rfl) (Nat.le_of_ble_eq_true rfl) (Nat.le_of_ble_eq_true rfl) ?_
      rintro _ _ _ ⟨rfl, rfl, rfl⟩
      refine r_eq rfl (st2 := [.int (nI (stText i).length), .int (nI (S.ke - S.kp))]) rfl ?_
      refine r_icmp_neN (pc := 65) 72 (tX11_takes.at 35 rfl) (by decide) (by omega) (by omega) (fun c1 => ?_) (fun c1 => ?_)
      · refine r_iconst (pc := 72) (w := nI (Bool.toNat false)) (tX11_takes.at 38 rfl) (by decide) ?_
        refine r_istore_n (pc := 73) (i := 3) (tX11_takes.at 39 rfl) rfl (by decide) ?_
        refine r_iconst (pc := 74) (w := nI 0) (tX11_takes.at 40 rfl) (by decide) ?_
        refine r_istore (pc := 75) (i := 4) (tX11_takes.at 41 rfl) (by decide) ?_
        exact loop (stText i).length 0 false (by omega) ⟨(fun z => by cases z), fun z => absurd z.1 c1⟩
      · refine r_iconst (pc := 68) (w := nI (Bool.toNat true)) (tX11_takes.at 36 rfl) (by decide) ?_
        refine r_goto (pc := 69) 73 (tX11_takes.at 37 rfl) (by decide) ?_
        refine r_istore_n (pc := 73) (i := 3) (tX11_takes.at 39 rfl) rfl (by decide) ?_
        refine r_iconst (pc := 74) (w := nI 0) (tX11_takes.at 40 rfl) (by decide) ?_
        refine r_istore (pc := 75) (i := 4) (tX11_takes.at 41 rfl) (by decide) ?_
        exact loop (stText i).length 0 true (by omega) ⟨fun _ => ⟨c1, fun j hj => by omega⟩, fun _ => rfl⟩
    have letters : ∀ q e, e + q = S.siz → S.kp ≤ e → (∀ j, S.kp ≤ j → j < e → isLt (S.txt j) = true) → J v mX11_takes (rmOf 6 0 0) (KM v Po noX 0 0) top 0 0 (mH v h m S.see) top 19 [some (.ref m), some (.ref (oA v (i + 1))), some (.int (nI e)), none, none] [] := by
      have stop : ∀ e, S.kp ≤ e → e ≤ S.siz → (∀ j, S.kp ≤ j → j < e → isLt (S.txt j) = true) → (e = S.siz ∨ isLt (S.txt e) = false) → S.ke = e := by
        intro e h1 h2 h3 h4
        unfold MS.ke ltN
        rw [fstN_is (k := e - S.kp) (by omega) (fun j hj => by rw [h3 _ (by omega) (by omega)]; rfl) ?_]
        · omega
        · rcases h4 with h4 | h4
          · exact Or.inl (by omega)
          · right
            rw [show S.kp + (e - S.kp) = e by omega, h4]
            rfl
      intro q
      induction q with
      | zero =>
        intro e hq h1 h2
        have ek := stop e h1 (by omega) h2 (Or.inl (by omega))
        refine r_iload_n (pc := 19) (i := 2) (tX11_takes.at 11 rfl) rfl rfl ?_
        refine r_aload_n (pc := 20) (i := 0) (tX11_takes.at 12 rfl) rfl rfl ?_
        refine r_get (pc := 21) (tX11_takes.at 13 rfl) gf_X11_80 (mH_0) rfl ?_
        refine r_eq rfl (st2 := [.int (nI S.siz), .int (nI e)]) rfl ?_
        refine r_icmp_geN (pc := 24) 55 (tX11_takes.at 14 rfl) (by decide) (by omega) (by omega) (fun _ => ?_) (fun c => by omega)
        rw [← ek]
        exact part2
      | succ q ih =>
        intro e hq h1 h2
        have h3 := o3 e
        refine r_iload_n (pc := 19) (i := 2) (tX11_takes.at 11 rfl) rfl rfl ?_
        refine r_aload_n (pc := 20) (i := 0) (tX11_takes.at 12 rfl) rfl rfl ?_
        refine r_get (pc := 21) (tX11_takes.at 13 rfl) gf_X11_80 (mH_0) rfl ?_
        refine r_eq rfl (st2 := [.int (nI S.siz), .int (nI e)]) rfl ?_
        refine r_icmp_geN (pc := 24) 55 (tX11_takes.at 14 rfl) (by decide) (by omega) (by omega) (fun c => by omega) (fun _ => ?_)
        refine r_aload_n (pc := 27) (i := 0) (tX11_takes.at 15 rfl) rfl rfl ?_
        refine r_get (pc := 28) (tX11_takes.at 16 rfl) gf_X11_16 (mH_0) rfl ?_
        refine r_iload_n (pc := 31) (i := 2) (tX11_takes.at 17 rfl) rfl rfl ?_
        refine r_iald (pc := 32) (tX11_takes.at 18 rfl) (mH_txt) (e) (rfl) (by omega) (Nat.le_of_ble_eq_true rfl) ?_
        refine r_bipush (pc := 33) (w := nI 97) (tX11_takes.at 19 rfl) (by decide) ?_
        refine r_eq rfl (st2 := [.int (nI 97), .int (nI (S.txt e))]) rfl ?_
        refine r_icmp_ltN (pc := 35) 55 (tX11_takes.at 20 rfl) (by decide) (by omega) (by omega) (fun c1 => ?_) (fun c1 => ?_)
        · have ek := stop e h1 (by omega) h2 (Or.inr (decide_eq_false (by omega)))
          rw [← ek]
          exact part2
        · refine r_aload_n (pc := 38) (i := 0) (tX11_takes.at 21 rfl) rfl rfl ?_
          refine r_get (pc := 39) (tX11_takes.at 22 rfl) gf_X11_16 (mH_0) rfl ?_
          refine r_iload_n (pc := 42) (i := 2) (tX11_takes.at 23 rfl) rfl rfl ?_
          refine r_iald (pc := 43) (tX11_takes.at 24 rfl) (mH_txt) (e) (rfl) (by omega) (Nat.le_of_ble_eq_true rfl) ?_
          refine r_bipush (pc := 44) (w := nI 122) (tX11_takes.at 25 rfl) (by decide) ?_
          refine r_eq rfl (st2 := [.int (nI 122), .int (nI (S.txt e))]) rfl ?_
          refine r_icmp_gtN (pc := 46) 55 (tX11_takes.at 26 rfl) (by decide) (by omega) (by omega) (fun c2 => ?_) (fun c2 => ?_)
          · have ek := stop e h1 (by omega) h2 (Or.inr (decide_eq_false (by omega)))
            rw [← ek]
            exact part2
          · first | refine r_iincN (pc := 49) (tX11_takes.at 27 rfl) rfl (by decide) ?_ | refine r_iinc (pc := 49) (tX11_takes.at 27 rfl) rfl rfl (by decide) ?_
            refine r_goto (pc := 52) 19 (tX11_takes.at 28 rfl) (by decide) ?_
            refine ih (e + 1) (by omega) (by omega) (fun j g1 g2 => ?_)
            by_cases h4 : j = e
            · rw [h4]
              exact decide_eq_true (by omega)
            · exact h2 j g1 (by omega)
    exact letters (S.siz - S.kp) S.kp (by omega) (Nat.le_refl _) (fun j h1 h2 => by omega)
  · refine r_iconst (pc := 7) (w := nI 0) (tX11_takes.at 3 rfl) (by decide) ?_
    refine r_zret (pc := 8) (tX11_takes.at 4 rfl) rfl (rfl) (Nat.le_of_ble_eq_true rfl) (Nat.le_of_ble_eq_true rfl) ?_
    subst hPo
    exact ⟨by rw [MS.tkB, decide_eq_false c0]; rfl, by rw [MS.tkS, if_neg c0], rfl⟩
end

