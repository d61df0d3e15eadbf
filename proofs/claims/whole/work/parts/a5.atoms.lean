/-! ===== the cost expression on both sides: atoms ===== -/
/-- both stand at the same place within an expression, n deep -/
def gud (n : Nat) (R : RD) (S : MS) : Prop := Syn R S ∧ S.nst = n ∧ S.red 3 + 10 ≤ S.nxt ∧ endT R.T
def kps (R R' : RD) (S S' : MS) : Prop := (R'.T = R.T ∧ R'.G = R.G ∧ R'.hc = R.hc) ∧ (∀ k, k < 56 → k ≠ 3 → S'.red k = S.red k) ∧ S'.red 3 + S.nxt ≤ S.red 3 + S'.nxt ∧ S.nxt ≤ S'.nxt ∧ S'.siz = S.siz
theorem kps.trans {R1 R2 R3 : RD} {S1 S2 S3 : MS} (a : kps R1 R2 S1 S2) (b : kps R2 R3 S2 S3) : kps R1 R3 S1 S3 := ⟨⟨b.1.1.trans a.1.1, b.1.2.1.trans a.1.2.1, b.1.2.2.trans a.1.2.2⟩, fun k h1 h2 => (b.2.1 k h1 h2).trans (a.2.1 k h1 h2), by have := a.2.2; have := b.2.2; omega, by have := a.2.2; have := b.2.2; omega, b.2.2.2.2.trans a.2.2.2.2⟩
/-- a factor read on both sides -/
def FacP (n : Nat) (fc : MS → MS) : Prop := ∀ R S, gud n R S → CdR R S.red → R.wc ≤ 3 * n + 2 → (∃ R', RC n true R = RC n false R' ∧ gud n R' (fc S) ∧ CdR R' (fc S).red ∧ R'.wc = R.wc ∧ (∀ j, j < R.wc → R'.wt j = R.wt j) ∧ kps R R' S (fc S)) ∨ ∃ R', RC n true R = (false, R') ∧ Fl (false, R') (fc S)
/-- a sum read on both sides -/
def SumP (n : Nat) (sm : MS → MS) : Prop := ∀ R S, gud n R S → CdR R S.red → R.wc ≤ 3 * n → (R.wc = 0 ∨ str (R.wt (R.wc - 1)) = 0) → (∃ R', RC n true R = RC n false R' ∧ gud n R' (sm S) ∧ CdR (R'.rel 1) (sm S).red ∧ (R'.rel 1).wc = R.wc ∧ (∀ j, j < R.wc → R'.wt j = R.wt j) ∧ kps R R' S (sm S) ∧ ((sm S).sv ≠ 42 ∧ (sm S).sv ≠ 43 ∧ (sm S).sv ≠ 45 ∧ (sm S).sv ≠ 47)) ∨ ∃ R', RC n true R = (false, R') ∧ Fl (false, R') (sm S)
section
variable {R : RD} {S : MS} {n : Nat}
theorem Syn.lt (h : Syn R S) : R.nx < R.T.2.2 := by
  have := h.2.2.2.1
  have := TL_pos (b := S.txt) (len := S.siz) (a := S.nxt)
  omega
theorem CdR.take {f : Nat → Nat} (h : CdR R f) : CdR R.take f := h
/-- one code more -/
theorem atom_ok {S1 : MS} {k w : Nat} {x : Int} (h : Syn R.take S1) (c : CdR R S.red) (hr : S1.red = S.red) (hb : S.red 3 + 10 ≤ S.nxt) (hn : S.nxt < S1.nxt) (hns : S1.nst = n) (hz : S1.siz = S.siz) (he : endT R.T) (hx : x = cdv k w) : gud n (R.take.emit x) (S1.cod k w) ∧ CdR (R.take.emit x) (S1.cod k w).red ∧ (R.take.emit x).wc = R.wc ∧ (∀ j, j < R.wc → (R.take.emit x).wt j = R.wt j) ∧ kps R (R.take.emit x) S (S1.cod k w) := by
  have hc : R.take.cl < 600 := by
    have e1 : R.cl = S.red 3 := c.1
    have e2 : R.take.cl = R.cl := rfl
    have e3 := h.1.1
    have e4 := h.1.2.1
    omega
  have c1 : CdR R.take S1.red := by
    rw [hr]
    exact c
  have e := emit_cod c1 h.2.1 hc hx
  have em : R.take.emit x = ((R.take.1.1, R.take.1.2.1, (R.take.hc, R.take.cl + 1, R.take.wc)), R.take.T, R.take.G, upZ R.take.cd R.take.cl x, R.take.wt) := if_pos hc
  have r3 : (S1.cod k w).red 3 = S.red 3 + 1 := by
    unfold MS.cod
    rw [if_pos h.2.1]
    show upN (upN (upN S1.red (56 + 2 * S1.red 3) k) (56 + 2 * S1.red 3 + 1) w) 3 (S1.red 3 + 1) 3 = _
    rw [upN_eq, hr]
  have nx : (S1.cod k w).nxt = S1.nxt := by
    unfold MS.cod
    rw [if_pos h.2.1]
    rfl
  have sz : (S1.cod k w).siz = S1.siz := by
    unfold MS.cod
    rw [if_pos h.2.1]
    rfl
  have ns : (S1.cod k w).nst = S1.nst := by
    unfold MS.cod
    rw [if_pos h.2.1]
    rfl
  refine ⟨⟨((emit_T x).syn h).cod k w, by rw [ns, hns], by rw [r3, nx]; omega, ?_⟩, e, ?_, ?_, ⟨⟨?_, ?_, ?_⟩, fun j h1 h2 => ?_, by rw [r3, nx]; omega, by rw [nx]; omega, by rw [sz, hz]⟩⟩
  · rw [(emit_T x).1]
    exact he
  · rw [em]
    rfl
  · rw [em]
    exact fun _ _ => rfl
  · rw [em]
    rfl
  · rw [em]
    rfl
  · rw [em]
    rfl
  · rw [cod_out h.2.1 h2 h1, hr]
/-- a factor that opens no bracket -/
theorem atom_sim {sm : MS → MS} (g : gud n R S) (c : CdR R S.red) (h40 : S.sv ≠ 40) : (∃ R', RC n true R = RC n false R' ∧ gud n R' (fcS sm S) ∧ CdR R' (fcS sm S).red ∧ R'.wc = R.wc ∧ (∀ j, j < R.wc → R'.wt j = R.wt j) ∧ kps R R' S (fcS sm S)) ∨ ∃ R', RC n true R = (false, R') ∧ Fl (false, R') (fcS sm S) := by
  obtain ⟨h, hn, hb, he⟩ := g
  obtain ⟨t1, t2, t3, t4, t5⟩ := h.tk
  have hs := h.see
  have hlt := h.lt
  have ok := h.1
  have hk := ok.kp
  obtain ⟨q1, q2⟩ := ct_chr (S := S) ok (c := 40) (by omega) (by decide) (by decide)
  have nk : R.take.kd ≠ 40 := fun z => h40 (q1.mp (t1.symm.trans z))
  have sv2 : S.see.sv = S.sv := by
    unfold MS.sv
    rw [(ok.see).2]
    rfl
  have dg2 : S.see.dgB = S.dgB := by
    unfold MS.dgB
    rw [sv2]
  unfold fcS
  rw [if_pos h.2.1, if_neg h40]
  have word : ∀ i, 1 ≤ i → i < 9 → S.see.tkB (i + 24) = true → S.nxt < (S.see.tkS (i + 24)).nxt := by
    intro i h1 h2 hw
    have e := (tk_len hw).2
    have := (wd_len i h1 h2).2.2
    have := (wd_len i h1 h2).2.1
    rw [(ok.see).2] at e
    have e5 : (stText (i + 24)).length = (stText i).length := by rw [this]
    omega
  cases hd : S.dgB with
  | true =>
    rw [if_pos rfl]
    have hk7 : R.take.kd = 257 := by rw [t1, ct_num hd]
    have w := num_sim (a := 0) (b := 9999) (A := 0) (B := 9999) hs rfl rfl (by omega)
    rcases w with ⟨w1, w2, w3, w4, w5, w6, w7⟩ | F
    · left
      have hf : rdFac R.take = (true, R.take.emit R.take.vl) := by
        unfold rdFac
        rw [if_pos hk7, if_neg (by omega)]
      have dn : S.nxt < (S.see.rdS 0 9999).nxt := by
        have e : (S.see.rdS 0 9999) = (S.see.s_beg S.see.kp).s_nxt (S.see.kp + S.see.rdK) := by
          have q := w2.2.1
          unfold MS.rdS at q ⊢
          have h0 : S.see.err = 0 := h.2.1
          rw [if_pos h0, dg2, hd, if_pos rfl] at q ⊢
          by_cases z : (0 : Int) ≤ S.see.rdV ∧ (S.see.rdV : Int) ≤ 9999
          · rw [if_pos z]
          · rw [if_neg z, fls_0 (show ((S.see.s_beg S.see.kp).s_nxt (S.see.kp + S.see.rdK)).err = 0 from h0)] at q
            exact absurd q (by show ¬ ((-3 : Int) = 0); decide)
        rw [e]
        have c0 := ct_num hd
        have g0 : S.kp < (tok S.txt S.siz S.kp).2 := tok_gt (dgB_iff.mp hd).1
        have c1 : S.ct = tok S.txt S.siz S.kp := by rw [ct_eq, if_pos (dgB_iff.mp hd).1]
        rw [← c1, c0] at g0
        have g1 : S.kp < S.kp + S.rdK := g0
        show S.nxt < S.see.kp + S.see.rdK
        rw [(ok.see).2]
        have e7 : S.see.rdK = S.rdK := by
          unfold MS.rdK
          rw [(ok.see).2]
          rfl
        rw [e7]
        omega
      have a := atom_ok (n := n) (k := 0) (w := S.see.rdR 0 9999) (x := (R.take.vl : Nat)) w2 c w5 hb dn (by
        have q := w2
        show (S.see.rdS 0 9999).nst = n
        rw [rdS_red.2.2]
        exact hn) (by
        show (S.see.rdS 0 9999).siz = S.siz
        unfold MS.rdS MS.fls
        (repeat' split) <;> rfl) he (by rw [w3]; rfl)
      refine ⟨R.take.emit R.take.vl, ?_, a⟩
      rw [RC_fac hlt he nk (by rw [hf]), hf]
    · right
      have hf : rdFac R.take = rdNum 0 9999 R := by
        have f1 := F.1
        unfold rdNum at f1 ⊢
        unfold rdFac
        rw [if_neg (show ¬ R.take.kd ≠ 257 from fun z => z hk7)] at f1
        rw [if_pos hk7, if_neg (show ¬ R.take.kd ≠ 257 from fun z => z hk7)]
        by_cases z : R.take.vl < 0 ∨ 9999 < R.take.vl
        · rw [if_pos z, if_pos (by omega)]
        · rw [if_neg z] at f1
          cases f1
      have e : (S.see.rdS 0 9999).cod 0 (S.see.rdR 0 9999) = S.see.rdS 0 9999 := cod_n F.err _ _
      rw [e]
      refine ⟨(rdNum 0 9999 R).2, ?_, rfl, F.2⟩
      rw [RC_facF hlt nk (by rw [hf]; exact F.1), hf]
  | false =>
    have hk7 : R.take.kd ≠ 257 := by rw [t1]; exact ct_nn ok hd
    rw [if_neg (by intro z; cases z)]
    have leaf : ∀ i x, 1 ≤ i → i < 9 → S.see.tkB (i + 24) = true → ∀ w, x = cdv 5 w → rdFac R.take = (true, R.take.emit x) → (∃ R', RC n true R = RC n false R' ∧ gud n R' ((S.see.tkS (i + 24)).cod 5 w) ∧ CdR R' ((S.see.tkS (i + 24)).cod 5 w).red ∧ R'.wc = R.wc ∧ (∀ j, j < R.wc → R'.wt j = R.wt j) ∧ kps R R' S ((S.see.tkS (i + 24)).cod 5 w)) := by
      intro i x h1 h2 hw w hx hf
      obtain ⟨s1, s2⟩ := (word_sim hs h1 h2).2 hw
      have a := atom_ok (n := n) (k := 5) (w := w) (x := x) s1 c s2 hb (word i h1 h2 hw) (by rw [tkS_red.2.2.1]; exact hn) (by
        show (S.see.tkS (i + 24)).siz = S.siz
        unfold MS.tkS
        (repeat' split) <;> rfl) he hx
      exact ⟨R.take.emit x, by rw [RC_fac hlt he nk (by rw [hf]), hf], a⟩
    have i6 := (word_sim hs (i := 6) (by omega) (by omega)).1
    have i7 := (word_sim hs (i := 7) (by omega) (by omega)).1
    have i8 := (word_sim hs (i := 8) (by omega) (by omega)).1
    by_cases c6 : S.see.tkB 30 = true
    · rw [if_pos c6]
      exact Or.inl (leaf 6 (-1) (by omega) (by omega) c6 0 rfl (by
        have k6 : R.take.kd = 263 := i6.mp c6
        unfold rdFac
        rw [if_neg hk7, if_pos k6]))
    · rw [if_neg c6]
      have k6 : ¬ R.take.kd = 263 := fun z => c6 (i6.mpr z)
      by_cases c7 : S.see.tkB 31 = true
      · rw [if_pos c7]
        exact Or.inl (leaf 7 (-2) (by omega) (by omega) c7 1 rfl (by
          have k7 : R.take.kd = 264 := i7.mp c7
          unfold rdFac
          rw [if_neg hk7, if_neg k6, if_pos k7]))
      · rw [if_neg c7]
        have k7 : ¬ R.take.kd = 264 := fun z => c7 (i7.mpr z)
        by_cases c8 : S.see.tkB 32 = true
        · rw [if_pos c8]
          exact Or.inl (leaf 8 (-3) (by omega) (by omega) c8 2 rfl (by
            have k8 : R.take.kd = 265 := i8.mp c8
            unfold rdFac
            rw [if_neg hk7, if_neg k6, if_neg k7, if_pos k8]))
        · rw [if_neg c8]
          have k8 : ¬ R.take.kd = 265 := fun z => c8 (i8.mpr z)
          right
          have hf : rdFac R.take = (false, R.take.fail (-2)) := by
            unfold rdFac
            rw [if_neg hk7, if_neg k6, if_neg k7, if_neg k8]
          refine ⟨R.take.fail (-2), by rw [RC_facF hlt nk (by rw [hf]), hf], ?_⟩
          exact Fl.mk' (by omega) (show S.see.err = 0 from h.2.1) t2
end

