/-! ===== the two readers side by side: numbers, semicolons ===== -/
/-- the component's reader stands where the reference does, nothing has failed -/
def Syn (R : RD) (S : MS) : Prop := okP S ∧ S.err = 0 ∧ At S.txt S.siz R S.nxt
/-- both have failed: the same code, the same place -/
def Fl (x : Bool × RD) (S : MS) : Prop := x.1 = false ∧ S.err ≠ 0 ∧ x.2.err = S.err ∧ x.2.eat = (S.plc : Nat)
section
variable {R : RD} {S : MS}
theorem Syn.tk (h : Syn R S) : R.take.kd = S.ct.1.1 ∧ R.take.st = S.kp ∧ R.take.vl = S.ct.1.2.2 ∧ At S.txt S.siz R.take S.ct.2 ∧ S.ct.2 ≤ S.siz := by
  obtain ⟨ok, -, ha⟩ := h
  obtain ⟨e, f⟩ := ha.take ok.1
  have e' : (R.take.kd, R.take.st, R.take.vl) = S.ct.1 := e
  have e1 : R.take.kd = S.ct.1.1 := by rw [← e']
  have e2 : R.take.st = S.ct.1.2.1 := by rw [← e']
  have e3 : R.take.vl = S.ct.1.2.2 := by rw [← e']
  exact ⟨e1, e2.trans (ct_st ok), e3, f, (ct_le ha.1).1⟩
theorem fls_0 (h : S.err = 0) (c : Int) (a : Nat) : S.fls c a = (S.s_err c).s_plc a := if_pos h
theorem fls_n (h : S.err ≠ 0) (c : Int) (a : Nat) : S.fls c a = S := if_neg h
theorem Fl.mk' {X : RD} {S0 : MS} {c : Int} {a : Nat} (hc : c ≠ 0) (h : S0.err = 0) (hs : X.st = a) : Fl (false, X.fail c) (S0.fls c a) := by
  rw [fls_0 h]
  exact ⟨rfl, hc, rfl, by show ((X.st : Nat) : Int) = (a : Nat); rw [hs]⟩
/-- what a number leaves -/
theorem num_sim {a b : Nat} {A B : Int} (h : Syn R S) (hA : A = a) (hB : B = b) (hb : b ≤ 9999) : (rdNum a b R = (true, R.take) ∧ Syn R.take (S.rdS A B) ∧ R.take.vl = S.rdR A B ∧ (S.rdS A B).beg = R.take.st ∧ (S.rdS A B).red = S.red ∧ a ≤ S.rdR A B ∧ S.rdR A B ≤ b) ∨ Fl (rdNum a b R) (S.rdS A B) := by
  obtain ⟨t1, t2, t3, t4, t5⟩ := h.tk
  obtain ⟨ok, h0, ha⟩ := h
  subst hA hB
  unfold rdNum MS.rdS MS.rdR
  rw [if_pos h0]
  cases hd : S.dgB with
  | true =>
    have c := ct_num hd
    rw [c] at t1 t3 t4 t5
    have t1' : R.take.kd = 257 := t1
    have t3' : R.take.vl = numA S.txt S.kp S.rdK := t3
    rw [num_AR] at t3'
    have t3 : R.take.vl = min 10000 S.rdV := t3'
    rw [if_neg (fun z => z t1'), if_pos rfl]
    by_cases q : (a : Int) ≤ S.rdV ∧ (S.rdV : Int) ≤ (b : Int)
    · left
      rw [if_neg (by omega), if_pos q, if_pos ⟨h0, rfl, q⟩]
      refine ⟨rfl, ⟨⟨ok.1, t5, ok.2.2⟩, h0, t4⟩, by omega, t2.symm, rfl, by omega, by omega⟩
    · right
      rw [if_pos (by omega), if_neg q]
      exact Fl.mk' (by omega) h0 t2
  | false =>
    right
    have c := ct_nn ok hd
    rw [if_pos (by rw [t1]; exact c), if_neg (by intro z; cases z)]
    exact Fl.mk' (by omega) h0 t2
theorem semi_sim (h : Syn R S) : (rdSemi R = (true, R.take) ∧ Syn R.take (S.wan 59) ∧ (S.wan 59).red = S.red) ∨ Fl (rdSemi R) (S.wan 59) := by
  obtain ⟨t1, t2, t3, t4, t5⟩ := h.tk
  obtain ⟨ok, h0, ha⟩ := h
  obtain ⟨c1, c2⟩ := ct_chr (S := S) ok (c := 59) (by omega) (by decide) (by decide)
  unfold rdSemi MS.wan
  rw [if_pos h0]
  by_cases q : S.sv = ((59 : Nat) : Int)
  · left
    rw [if_pos q, if_pos (show R.take.kd = 59 from t1.trans (c1.mpr q))]
    have e := c2 q
    rw [e] at t4 t5
    exact ⟨rfl, ⟨⟨ok.1, t5, ok.2.2⟩, h0, t4⟩, rfl⟩
  · right
    rw [if_neg q, if_neg (show ¬ R.take.kd = 59 from fun z => q (c1.mp (t1.symm.trans z)))]
    exact Fl.mk' (by omega) h0 t2
/-- nothing moves once it has failed -/
theorem rdS_n (h : S.err ≠ 0) (a b : Int) : S.rdS a b = S := if_neg h
theorem wan_n (h : S.err ≠ 0) (c : Nat) : S.wan c = S := if_neg h
theorem tk_n (h : S.err ≠ 0) (i : Nat) : S.tkS i = S := if_neg h
theorem Fl.err {x : Bool × RD} (h : Fl x S) : S.err ≠ 0 := h.2.1
/-- a word: the same, seen before and after its token is taken -/
theorem word_sim (h : Syn R S) {i : Nat} (h1 : 1 ≤ i) (h2 : i < 9) : (S.tkB (i + 24) = true ↔ R.take.kd = 257 + (i : Int)) ∧ (S.tkB (i + 24) = true → Syn R.take (S.tkS (i + 24)) ∧ (S.tkS (i + 24)).red = S.red) := by
  obtain ⟨t1, t2, t3, t4, t5⟩ := h.tk
  obtain ⟨ok, h0, ha⟩ := h
  have e : S.tkB (i + 24) = true ↔ wdEq S.txt S.kp S.ke (i + 24) = true := by
    unfold MS.tkB
    rw [decide_eq_true h0, Bool.true_and]
  refine ⟨?_, fun q => ?_⟩
  · rw [e, t1]
    exact (ct_word ok h1 h2).symm
  · have q' := e.mp q
    have c := ct_wend h1 h2 q'
    unfold MS.tkS
    rw [if_pos h0, if_pos q']
    rw [c] at t4 t5
    exact ⟨⟨⟨ok.1, t5, ok.2.2⟩, h0, t4⟩, rfl⟩
theorem see_tk : S.see.err = S.err ∧ S.see.txt = S.txt ∧ S.see.siz = S.siz ∧ S.see.red = S.red := ⟨rfl, rfl, rfl, rfl⟩
theorem Syn.see (h : Syn R S) : Syn R S.see := by
  obtain ⟨ok, h0, ha⟩ := h
  have hk := ok.kp
  refine ⟨ok.see.1, h0, hk.2, ?_⟩
  have e : TL S.txt S.siz S.nxt = TL S.txt S.siz S.kp := TL_sp ok.1 ok.2.1
  obtain ⟨-, a2, a3⟩ := ha
  rw [e] at a2 a3
  exact ⟨a2, a3⟩
end

