/-! ===== the codes that a cost leaves: how many numbers wait ===== -/
def cK (f : Nat → Nat) (k : Nat) : Nat := f (56 + 2 * k)
def cW (f : Nat → Nat) (k : Nat) : Nat := f (56 + 2 * k + 1)
def lnC (f : Nat → Nat) : Nat → Nat
  | 0 => 0
  | k + 1 => if cK f k = 0 ∨ cK f k = 5 then lnC f k + 1 else lnC f k - 1
theorem lnC_cong {f g : Nat → Nat} : ∀ k, (∀ j, j < k → cK g j = cK f j) → lnC g k = lnC f k
  | 0, _ => rfl
  | k + 1, h => by rw [lnC, lnC, lnC_cong k (fun j hj => h j (by omega)), h k (by omega)]
/-- a stretch of codes that leaves one number more, and m at most on its way -/
def seg (f : Nat → Nat) (a b m : Nat) : Prop := a < b ∧ lnC f b = lnC f a + 1 ∧ ∀ k, a ≤ k → k < b → (cK f k ≤ 5 ∧ cW f k ≤ 9999 ∧ (cK f k = 5 → cW f k ≤ 2)) ∧ (¬ (cK f k = 0 ∨ cK f k = 5) → lnC f a + 2 ≤ lnC f k) ∧ lnC f (k + 1) ≤ lnC f a + m
theorem seg.mono {f : Nat → Nat} {a b m n : Nat} (h : seg f a b m) (hm : m ≤ n) : seg f a b n := ⟨h.1, h.2.1, fun k h1 h2 => ⟨(h.2.2 k h1 h2).1, (h.2.2 k h1 h2).2.1, Nat.le_trans (h.2.2 k h1 h2).2.2 (by omega)⟩⟩
theorem seg.cong {f g : Nat → Nat} {a b m : Nat} (h : seg f a b m) (e : ∀ j, j < b → cK g j = cK f j ∧ cW g j = cW f j) : seg g a b m := by
  obtain ⟨h1, h2, h3⟩ := h
  have l : ∀ k, k ≤ b → lnC g k = lnC f k := fun k hk => lnC_cong k (fun j hj => (e j (by omega)).1)
  refine ⟨h1, by rw [l b (Nat.le_refl _), l a (by omega)]; exact h2, fun k k1 k2 => ?_⟩
  rw [(e k k2).1, (e k k2).2, l a (by omega), l k (by omega), l (k + 1) (by omega)]
  exact h3 k k1 k2
/-- codes put behind those that stand, one number more -/
def cdS (m : Nat) (S S' : MS) : Prop := (∀ j, j ≠ 3 → j < 56 + 2 * S.red 3 → S'.red j = S.red j) ∧ seg S'.red (S.red 3) (S'.red 3) m
theorem cdS.mono {m n : Nat} {S S' : MS} (h : cdS m S S') (hm : m ≤ n) : cdS n S S' := ⟨h.1, h.2.mono hm⟩
theorem cdS.row {m : Nat} {S S2 S' S3 : MS} (h : cdS m S S') (e : S2.red = S.red) (e3 : S3.red = S'.red) : cdS m S2 S3 := by
  unfold cdS
  rw [e, e3]
  exact h
theorem cod_at {S : MS} (h0 : S.err = 0) {k w : Nat} : (S.cod k w).red 3 = S.red 3 + 1 ∧ cK (S.cod k w).red (S.red 3) = k ∧ cW (S.cod k w).red (S.red 3) = w ∧ ∀ j, j ≠ 3 → j < 56 + 2 * S.red 3 → (S.cod k w).red j = S.red j := by
  have e : (S.cod k w).red = upN (upN (upN S.red (56 + 2 * S.red 3) k) (56 + 2 * S.red 3 + 1) w) 3 (S.red 3 + 1) := by
    unfold MS.cod
    rw [if_pos h0]
    rfl
  unfold cK cW
  rw [e]
  refine ⟨upN_eq _ _ _, ?_, ?_, fun j h3 hj => ?_⟩
  · rw [upN_ne _ _ (by omega), upN_ne _ _ (by omega), upN_eq]
  · rw [upN_ne _ _ (by omega), upN_eq]
  · rw [upN_ne _ _ h3, upN_ne _ _ (by omega), upN_ne _ _ (by omega)]
theorem cod_err {S : MS} {k w : Nat} : (S.cod k w).err = S.err := by
  unfold MS.cod
  split <;> rfl
/-- one operand -/
theorem cod_seg {S S1 : MS} {k w : Nat} (h0 : S1.err = 0) (hr : S1.red = S.red) (hk : k = 0 ∨ k = 5) (hw : w ≤ 9999) (h5 : k = 5 → w ≤ 2) : cdS 1 S (S1.cod k w) := by
  obtain ⟨c1, c2, c3, c4⟩ := cod_at h0 (k := k) (w := w)
  rw [hr] at c1 c2 c3 c4
  refine ⟨c4, ?_⟩
  rw [c1]
  have l : lnC (S1.cod k w).red (S.red 3 + 1) = lnC (S1.cod k w).red (S.red 3) + 1 := by
    rw [lnC, c2, if_pos hk]
  refine ⟨Nat.lt_succ_self _, l, fun j j1 j2 => ?_⟩
  have ej : j = S.red 3 := by omega
  subst ej
  rw [c2, c3, l]
  exact ⟨⟨by omega, hw, h5⟩, fun z => absurd hk z, Nat.le_refl _⟩
/-- an operator behind its operands -/
theorem op_seg {m k : Nat} {S0 S S1 X : MS} (h : cdS (m + 1) S0 S) (hr : S1.red = S.red) (h2 : cdS m S1 X) (h0 : X.err = 0) (hk : 1 ≤ k ∧ k ≤ 4) : cdS (m + 1) S0 (X.cod k 0) := by
  obtain ⟨c1, c2, c3, c4⟩ := cod_at h0 (k := k) (w := 0)
  obtain ⟨p1, s1⟩ := h
  obtain ⟨p2, s2⟩ := h2
  rw [hr] at p2 s2
  have b1 := s1.1
  have b2 := s2.1
  have e1 : ∀ j, j < S.red 3 → cK X.red j = cK S.red j ∧ cW X.red j = cW S.red j := fun j hj => ⟨p2 _ (by omega) (by omega), p2 _ (by omega) (by omega)⟩
  have e2 : ∀ j, j < X.red 3 → cK (X.cod k 0).red j = cK X.red j ∧ cW (X.cod k 0).red j = cW X.red j := fun j hj => ⟨c4 _ (by omega) (by omega), c4 _ (by omega) (by omega)⟩
  have s1' := (s1.cong e1).cong (fun j hj => e2 j (by omega))
  have s2' := s2.cong e2
  refine ⟨fun j h3 hj => ?_, ?_⟩
  · rw [c4 j h3 (by omega), p2 j h3 (by omega), p1 j h3 hj]
  rw [c1]
  generalize hf : (X.cod k 0).red = f at *
  obtain ⟨q1, q2, q3⟩ := s1'
  obtain ⟨r1, r2, r3⟩ := s2'
  have l : lnC f (X.red 3 + 1) = lnC f (S0.red 3) + 1 := by
    rw [lnC, c2, if_neg (by omega)]
    omega
  refine ⟨by omega, l, fun j j1 j2 => ?_⟩
  by_cases d1 : j < S.red 3
  · exact q3 j j1 d1
  by_cases d2 : j < X.red 3
  · obtain ⟨g1, g2, g3⟩ := r3 j (by omega) d2
    refine ⟨g1, fun z => ?_, by omega⟩
    have := g2 z
    omega
  · have ej : j = X.red 3 := by omega
    subst ej
    rw [c2, c3, l]
    refine ⟨⟨by omega, by omega, fun z => by omega⟩, fun _ => by omega, by omega⟩
def SegL (n m : Nat) (fc : MS → MS) : Prop := ∀ X, Pq X → X.nst = n → X.err = 0 → (fc X).err = 0 → cdS m X (fc X)
theorem fls_err {S : MS} {c : Int} {a : Nat} (hc : c ≠ 0) : (S.fls c a).err ≠ 0 := by
  by_cases c0 : S.err = 0
  · rw [fls_0 c0]
    exact hc
  · rw [fls_n c0]
    exact c0
theorem fc_seg {n m : Nat} {sm : MS → MS} (hm : 1 ≤ m) (hs : n ≠ 4 → SegL (n + 1) m sm) : SegL n m (fcS sm) := by
  intro S p hn h0 he
  have ok := p.1
  unfold fcS at he ⊢
  rw [if_pos h0] at he ⊢
  by_cases c1 : S.sv = 40
  · rw [if_pos c1] at he ⊢
    by_cases c2 : S.nst = 4
    · rw [if_pos c2] at he
      exact absurd he (fls_err (by omega))
    · rw [if_neg c2] at he ⊢
      have he' : ((sm (fcX S)).wan 41).err = 0 := he
      have w := wan_err0 he'
      have k := hs (by omega) (fcX S) (fcX_P p c1) (by show S.nst + 1 = n + 1; omega) h0 w.1
      refine k.row rfl ?_
      show ((sm (fcX S)).wan 41).red = _
      exact wan_red.1
  rw [if_neg c1] at he ⊢
  by_cases c2 : S.dgB = true
  · rw [if_pos c2] at he ⊢
    rw [cod_err] at he
    exact (cod_seg (S := S) he rdS_red.1 (Or.inl rfl) rdR_le (fun z => by omega)).mono hm
  rw [if_neg c2] at he ⊢
  by_cases c3 : S.see.tkB 30 = true
  · rw [if_pos c3] at he ⊢
    rw [cod_err] at he
    exact (cod_seg (S := S) he (tkS_red (S := S.see)).1 (Or.inr rfl) (by omega) (fun _ => by omega)).mono hm
  rw [if_neg c3] at he ⊢
  by_cases c4 : S.see.tkB 31 = true
  · rw [if_pos c4] at he ⊢
    rw [cod_err] at he
    exact (cod_seg (S := S) he (tkS_red (S := S.see)).1 (Or.inr rfl) (by omega) (fun _ => by omega)).mono hm
  rw [if_neg c4] at he ⊢
  by_cases c5 : S.see.tkB 32 = true
  · rw [if_pos c5] at he ⊢
    rw [cod_err] at he
    exact (cod_seg (S := S) he (tkS_red (S := S.see)).1 (Or.inr rfl) (by omega) (fun _ => by omega)).mono hm
  rw [if_neg c5] at he
  exact absurd he (fls_err (by omega))
theorem tmL_n {c1 c2 k1 k2 : Nat} {fc : MS → MS} {S : MS} (h : S.err ≠ 0) : ∀ f, tmL c1 c2 k1 k2 fc f S = S
  | 0 => rfl
  | f + 1 => by rw [tmL, if_neg h]
theorem tm_seg {M : Md} {d n m c1 c2 k1 k2 : Nat} {fc : MS → MS} (hfc : LvC M d fc n) (hs : SegL n m fc) (h1 : 1 ≤ k1 ∧ k1 ≤ 4) (h2 : 1 ≤ k2 ∧ k2 ≤ 4) : ∀ f S0 S, Pq S → S.nst = n → cdS (m + 1) S0 S → (tmL c1 c2 k1 k2 fc f S).err = 0 → cdS (m + 1) S0 (tmL c1 c2 k1 k2 fc f S)
  | 0, S0, S, _, _, k, _ => k
  | f + 1, S0, S, p, hn, k, he => by
    rw [tmL] at he ⊢
    by_cases c0 : S.err = 0
    · rw [if_pos c0] at he ⊢
      by_cases c : S.sv = c1 ∨ S.sv = c2
      · rw [if_pos c] at he ⊢
        have q1 : S.kp + 1 ≤ S.siz := c.elim (fun z => sv_at p.1 z) (fun z => sv_at p.1 z)
        have g1 := gdc_one p q1
        have pX := g1.P p
        obtain ⟨g2, -⟩ := hfc _ pX hn
        have g3 := g1.trans g2
        obtain ⟨g4, -⟩ := gdc_cod (k := if S.sv = c1 then k1 else k2) (w := 0) p g3 (by split <;> omega) (by omega)
        have pY := g4.P p
        have e0 : (fc (S.s_nxt (S.kp + 1))).err = 0 := by
          refine Classical.byContradiction (fun z => ?_)
          have z' : ((fc (S.s_nxt (S.kp + 1))).cod (if S.sv = c1 then k1 else k2) 0).err ≠ 0 := by
            rw [cod_err]
            exact z
          rw [tmL_n z'] at he
          exact z' he
        have k2' := op_seg (k := if S.sv = c1 then k1 else k2) k (S1 := S.s_nxt (S.kp + 1)) rfl (hs _ pX hn c0 e0) e0 (by split <;> omega)
        exact tm_seg hfc hs h1 h2 f S0 _ pY (g4.nst.trans hn) k2' he
      · rw [if_neg c]
        exact k.row rfl rfl
    · rw [if_neg c0]
      exact k
theorem ts_seg {d n m : Nat} {fc : MS → MS} (hfc : LvC mX11_factor d fc n) (hs : SegL n m fc) : SegL n (m + 1) (tmS fc) := by
  intro X p hn h0 he
  have g := (hfc X p hn).1
  unfold tmS at he ⊢
  have e0 : (fc X).err = 0 := by
    refine Classical.byContradiction (fun z => ?_)
    rw [tmL_n z] at he
    exact z he
  exact tm_seg hfc hs (by omega) (by omega) 601 X (fc X) (g.P p) (g.nst.trans hn) ((hs X p hn h0 e0).mono (by omega)) he
theorem ss_seg {d n m : Nat} {tm : MS → MS} (htm : LvC mX11_term d tm n) (hs : SegL n m tm) : SegL n (m + 1) (smS tm) := by
  intro X p hn h0 he
  have g := (htm X p hn).1
  unfold smS at he ⊢
  have e0 : (tm X).err = 0 := by
    refine Classical.byContradiction (fun z => ?_)
    rw [tmL_n z] at he
    exact z he
  exact tm_seg htm hs (by omega) (by omega) 601 X (tm X) (g.P p) (g.nst.trans hn) ((hs X p hn h0 e0).mono (by omega)) he
theorem lv_seg : ∀ k, k ≤ 4 → SegL (4 - k) (3 + 2 * k) (lvS k)
  | 0, _ => by
    have f : LvC mX11_factor 8 (fcS id) 4 := fun X p hn => ⟨fc_gd (d := 0) (sm := id) p (fun z => absurd hn z), fun v h top m => c_mFac (d' := 0) (sm := id) p (by omega) (fun z => absurd hn z) (by omega) (by omega)⟩
    have t : LvC mX11_term 9 (tmS (fcS id)) 4 := TmC f (by omega) (by omega)
    exact ss_seg t (ts_seg f (fc_seg (n := 4) (m := 1) (by omega) (fun z => absurd rfl z)))
  | k + 1, h => by
    have ih := lv_ok k (by omega)
    have is := lv_seg k (by omega)
    have ih' : LvC mX11_sum (10 + 3 * k) (lvS k) (4 - (k + 1) + 1) := by rw [show 4 - (k + 1) + 1 = 4 - k by omega]; exact ih
    have is' : SegL (4 - (k + 1) + 1) (3 + 2 * k) (lvS k) := by rw [show 4 - (k + 1) + 1 = 4 - k by omega]; exact is
    have f : LvC mX11_factor (8 + 3 * (k + 1)) (fcS (lvS k)) (4 - (k + 1)) := fun X p hn => ⟨fc_gd (d := 10 + 3 * k) (sm := lvS k) p (fun _ => by rw [hn]; exact ih'), fun v h top m => c_mFac (d' := 10 + 3 * k) (sm := lvS k) p (by omega) (fun _ => by rw [hn]; exact ih') (by omega) (by omega)⟩
    have t : LvC mX11_term (9 + 3 * (k + 1)) (tmS (fcS (lvS k))) (4 - (k + 1)) := TmC f (by omega) (by omega)
    have r := ss_seg t (ts_seg f (fc_seg (m := 3 + 2 * k) (by omega) (fun _ => is')))
    rw [show 3 + 2 * (k + 1) = 3 + 2 * k + 1 + 1 by omega]
    exact r
/-- the codes that a text has left so far -/
def CO (S : MS) : Prop := S.hco = 1 → seg S.red 0 (S.red 3) 11
theorem CO.row {S X : MS} (c : CO S) (hh : X.hco = S.hco) (o : ∀ k, k = 3 ∨ 56 ≤ k → X.red k = S.red k) : CO X := by
  intro z
  rw [hh] at z
  have s := c z
  rw [o 3 (Or.inl rfl)]
  exact s.cong (fun j _ => ⟨o _ (Or.inr (by omega)), o _ (Or.inr (by omega))⟩)
section
variable {R : RD} {S : MS}
theorem line_co {X : MS} {x : Bool × RD} (c : CO S) (hX : S.sts = X) (he : S.stm.err = 0) (hx : (∃ R', x = (true, R') ∧ Syn R' X ∧ GR R'.G X.red ∧ R'.T = R.take.T ∧ (R'.hc = R.take.hc ∧ R'.cl = R.take.cl ∧ R'.cd = R.take.cd) ∧ ∀ k, k = 3 ∨ 56 ≤ k → X.red k = S.red k) ∨ Fl x X) (hh : X.hco = S.hco) : CO S.stm := by
  have e : S.stm = X.wan 59 := by
    unfold MS.stm
    rw [hX]
  rw [e] at he ⊢
  have w := wan_err0 he
  rcases hx with ⟨R', -, -, -, -, -, o⟩ | f
  · exact c.row (wan_red.2.1.trans hh) (fun k hk => by rw [wan_red.1]; exact o k hk)
  · exact absurd w.1 f.err
theorem stm_co (h : StR R S) (c : CO S) (he : S.stm.err = 0) : CO S.stm := by
  obtain ⟨h1, h2, h3, h4, h5, h6⟩ := h
  obtain ⟨-, j2⟩ := word_sim h1.see (i := 2) (by omega) (by omega)
  obtain ⟨-, j3⟩ := word_sim h1.see (i := 3) (by omega) (by omega)
  obtain ⟨-, j4⟩ := word_sim h1.see (i := 4) (by omega) (by omega)
  by_cases c2 : S.see.tkB 26 = true
  · obtain ⟨s, r⟩ := j2 c2
    have hr : (S.see.tkS 26).red = S.red := r
    have e := edge_sim (R := R.take) (S := S.see.tkS 26) s (by rw [hr]; exact h3)
    rw [hr] at e
    exact line_co (R := R) c (by unfold MS.sts; rw [if_pos c2]) he e (el_hco.trans tkS_red.2.1)
  by_cases c3 : S.see.tkB 27 = true
  · obtain ⟨s, r⟩ := j3 c3
    have hr : (S.see.tkS 27).red = S.red := r
    have e := abs_sim (R := R.take) (S := S.see.tkS 27) s (by rw [hr]; exact h3)
    rw [hr] at e
    exact line_co (R := R) c (by unfold MS.sts; rw [if_neg c2, if_pos c3]) he e (ab_hco.trans tkS_red.2.1)
  by_cases c4 : S.see.tkB 28 = true
  · obtain ⟨s, r⟩ := j4 c4
    have hr : (S.see.tkS 28).red = S.red := r
    have e := join_sim (R := R.take) (S := S.see.tkS 28) s (by rw [hr]; exact h3)
    rw [hr] at e
    exact line_co (R := R) c (by unfold MS.sts; rw [if_neg c2, if_neg c3, if_pos c4]) he e (jn_hco.trans tkS_red.2.1)
  by_cases c5 : S.see.tkB 29 = true
  · have es : S.sts = if S.co1.err = 0 then lvS 4 S.co1 else S.co1 := by
      unfold MS.sts
      rw [if_neg c2, if_neg c3, if_neg c4, if_pos c5]
    have em : S.stm = (if S.co1.err = 0 then lvS 4 S.co1 else S.co1).wan 59 := by
      unfold MS.stm
      rw [es]
    rw [em] at he ⊢
    have w := wan_err0 he
    have co := co_I1 h2 h1.2.1 c5
    have z0 : S.co1.err = 0 := by
      refine Classical.byContradiction (fun z => ?_)
      have w1 := w.1
      rw [if_neg z] at w1
      exact z w1
    rw [if_pos z0] at w ⊢
    obtain ⟨d1, d2, d3⟩ := co.1 z0
    have k := lv_seg 4 (Nat.le_refl 4) S.co1 d1 d2 z0 w.1
    intro _
    rw [wan_red.1]
    have r3 : S.co1.red 3 = 0 := by
      rw [co.2.2.2.1]
      exact h2.2.2.2.1.2 d3
    have k2 := k.2
    rw [r3] at k2
    exact k2
  · exfalso
    have w := wan_err0 he
    have e : S.sts = S.see.fls (-2) S.kp := by
      unfold MS.sts
      rw [if_neg c2, if_neg c3, if_neg c4, if_neg c5]
    have w1 := w.1
    rw [e] at w1
    exact fls_err (by omega) w1
/-- labels stay labels -/
def LB (S : MS) : Prop := ∀ k, k < 6 → S.red (49 + k) ≤ 5
theorem el_lab (h14 : S.red 1 ≤ 14) : ∀ k, 49 ≤ k → S.elS.red k = S.red k := by
  intro k hk
  have e3 : S.el3.red = S.red := by
    unfold MS.el3
    split
    · exact fls_red.1.trans (rdS_red.1.trans rdS_red.1)
    · exact rdS_red.1.trans rdS_red.1
  have e4 : S.el4.red = S.red := rdS_red.1.trans e3
  unfold MS.elS
  split
  · show upN (upN (upN (upN S.el4.red (4 + 3 * S.el4.red 1) (min S.rvR S.rvS.rvR)) (4 + 3 * S.el4.red 1 + 1) (max S.rvR S.rvS.rvR)) (4 + 3 * S.el4.red 1 + 2) (S.el3.rdR 1 9)) 1 (S.el4.red 1 + 1) k = S.red k
    rw [e4, upN_ne _ _ (by omega), upN_ne _ _ (by omega), upN_ne _ _ (by omega), upN_ne _ _ (by omega)]
  · rw [e4]
theorem el_many (h0 : S.elS.err = 0) : S.elS.red 1 = S.red 1 + 1 := by
  have e3 : S.el3.red = S.red := by
    unfold MS.el3
    split
    · exact fls_red.1.trans (rdS_red.1.trans rdS_red.1)
    · exact rdS_red.1.trans rdS_red.1
  have e4 : S.el4.red = S.red := rdS_red.1.trans e3
  unfold MS.elS at h0 ⊢
  split at h0
  · next c =>
    rw [if_pos c]
    show upN (upN (upN (upN S.el4.red (4 + 3 * S.el4.red 1) (min S.rvR S.rvS.rvR)) (4 + 3 * S.el4.red 1 + 1) (max S.rvR S.rvS.rvR)) (4 + 3 * S.el4.red 1 + 2) (S.el3.rdR 1 9)) 1 (S.el4.red 1 + 1) 1 = S.red 1 + 1
    rw [upN_eq, e4]
  · next c => exact absurd h0 c
theorem ab_lab : ∀ k, 49 ≤ k → S.abL.red k = S.red k := by
  intro k hk
  have e2 : S.ab2.red = S.red := by
    unfold MS.ab2
    split
    · exact fls_red.1.trans rdS_red.1
    · exact rdS_red.1
  unfold MS.abL
  split
  · show upN S.ab2.red 2 (S.ab2.red 2 ||| 2 ^ S.rvR) k = S.red k
    rw [upN_ne _ _ (by omega), e2]
  · rw [e2]
theorem jn_lb (l : LB S) (h6 : S.red 0 ≤ 6) : LB S.jnL := by
  intro k hk
  have e2 : S.rvS.rvS.red = S.red := rdS_red.1.trans rdS_red.1
  have r := rvR_le (S := S) h6
  unfold MS.jnL
  split
  · show rlF S.rvS.rvS.red 49 (S.rvS.rvS.red 0) (S.rvS.rvS.red (49 + S.rvS.rvR)) (S.rvS.rvS.red (49 + S.rvR)) (49 + k) ≤ 5
    rw [e2]
    unfold rlF
    split
    · exact l _ (by omega)
    · exact l k hk
  · rw [e2]
    exact l k hk
theorem stm_lb (h : StR R S) (l : LB S) (he : S.stm.err = 0) : LB S.stm := by
  obtain ⟨h1, h2, h3, h4, h5, h6⟩ := h
  obtain ⟨-, j2⟩ := word_sim h1.see (i := 2) (by omega) (by omega)
  have w := wan_err0 he
  have ew : ∀ k, S.stm.red k = S.sts.red k := fun k => by
    show (S.sts.wan 59).red k = _
    rw [wan_red.1]
  have ls : LB S.sts → LB S.stm := fun z k hk => by
    rw [ew]
    exact z k hk
  refine ls ?_
  have w1 := w.1
  by_cases c2 : S.see.tkB 26 = true
  · obtain ⟨s, r⟩ := j2 c2
    have hr : (S.see.tkS 26).red = S.red := r
    have e := edge_sim (R := R.take) (S := S.see.tkS 26) s (by rw [hr]; exact h3)
    have es : S.sts = (S.see.tkS 26).elS := by
      unfold MS.sts
      rw [if_pos c2]
    rw [es] at w1 ⊢
    rcases e with ⟨R', -, -, g, -⟩ | f
    · have m := el_many w1
      have e15 := g.1.2.1.1.2.1
      have ge := g.2.1.2.1
      rw [hr] at m
      intro k hk
      rw [el_lab (by rw [hr]; omega) _ (by omega), hr]
      exact l k hk
    · exact absurd w1 f.err
  by_cases c3 : S.see.tkB 27 = true
  · have es : S.sts = (S.see.tkS 27).abL := by
      unfold MS.sts
      rw [if_neg c2, if_pos c3]
    rw [es]
    intro k hk
    rw [ab_lab _ (by omega), tkS_red.1]
    exact l k hk
  by_cases c4 : S.see.tkB 28 = true
  · have es : S.sts = (S.see.tkS 28).jnL := by
      unfold MS.sts
      rw [if_neg c2, if_neg c3, if_pos c4]
    rw [es]
    refine jn_lb (fun k hk => ?_) ?_
    · rw [tkS_red.1]
      exact l k hk
    · rw [tkS_red.1]
      exact h2.2.1.1
  by_cases c5 : S.see.tkB 29 = true
  · have es : S.sts = if S.co1.err = 0 then lvS 4 S.co1 else S.co1 := by
      unfold MS.sts
      rw [if_neg c2, if_neg c3, if_neg c4, if_pos c5]
    rw [es] at w1 ⊢
    have co := co_I1 h2 h1.2.1 c5
    have z0 : S.co1.err = 0 := by
      refine Classical.byContradiction (fun z => ?_)
      rw [if_neg z] at w1
      exact z w1
    rw [if_pos z0]
    obtain ⟨d1, d2, d3⟩ := co.1 z0
    obtain ⟨g, -⟩ := lv_ok 4 (Nat.le_refl 4) S.co1 d1 d2
    intro k hk
    rw [g.2.2.2.2.1 _ (by omega) (by omega), co.2.2.2.1]
    exact l k hk
  · exfalso
    have e : S.sts = S.see.fls (-2) S.kp := by
      unfold MS.sts
      rw [if_neg c2, if_neg c3, if_neg c4, if_neg c5]
    rw [e] at w1
    exact fls_err (by omega) w1
end

