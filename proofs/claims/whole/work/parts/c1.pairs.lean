/-! ===== both sides in one heap ===== -/
def Inv (v : Ev) (h : Hp) (top x : Nat) (Z : CS) (S : MS) : Prop := okX v h x Z ∧ mH v h (x + 96) S = h ∧ ((∃ fo, h (x + 110) = some (aJ v 1 fo)) ∧ ∃ fd, h (x + 111) = some (aD v 1 fd)) ∧ (x + 112 ≤ top ∧ oA v 0 < x) ∧ Rel v h top x Z S
def frO (h h1 : Hp) (x top : Nat) : Prop := ∀ a, (a < x ∨ (x + 96 ≤ a ∧ a < top)) → a ≠ x + 110 → a ≠ x + 111 → h1 a = h a
/-- behind the component's call -/
def EX (v : Ev) (h : Hp) (top x : Nat) (Z' : CS) (h1 : Hp) (top1 : Nat) : Prop := top ≤ top1 ∧ okX v h1 x Z' ∧ frO h h1 x top ∧ (∃ fo, h1 (x + 110) = some (aJ v 1 fo)) ∧ ∃ fd, h1 (x + 111) = some (aD v 1 fd)
def isI (t : Nat) (y : Int64) (w : Value) : Prop := ∃ b : Int32, w = .int b ∧ (t = 0 → b.toInt64 = y)
def isJ (t : Nat) (y : Int64) (w : Value) : Prop := ∃ b : Int64, w = .long b ∧ (t = 0 → b = y)
/-- a call that may throw, on both sides -/
def PairB (v : Ev) (x : Nat) (L Mm : Md) (as : List Value) (Pw : Nat → Int64 → Value → Prop) (dm : Nat) (h : Hp) (top : Nat) : Prop :=
  ∃ (t : Nat) (y : Int64) (d mc ms : Nat) (E : Hp → Nat → Prop), (t ≤ 3 ∧ d ≤ 11 ∧ mc ≤ 1 ∧ ms ≤ 600) ∧
    Cal v L d mc ms (.ref x :: (as ++ [.ref (x + 110)])) h top (fun r h1 top1 => r = some (.int (nI t)) ∧ E h1 top1 ∧ ∃ fo, h1 (x + 110) = some (aJ v 1 fo) ∧ (t = 0 → fo 0 = y)) noX ∧
    ∀ h1 top1, E h1 top1 → (∃ fs, h1 (x + 96) = some (ob 11 fs)) ∧ Cal v Mm dm 0 0 (.ref (x + 96) :: as) h1 top1 (fun r h2 top2 => ∃ w, r = some w ∧ Pw t y w ∧ top1 = top2 ∧ h2 (x + 110) = h1 (x + 110) ∧ ∃ Z' S', Inv v h2 top2 x Z' S' ∧ S'.thr = t) noX
/-- a call that throws nothing, on both sides -/
def PairA (v : Ev) (x : Nat) (M Mm : Md) (as : List Value) (Pw : Value → Prop) (d dm : Nat) (h : Hp) (top : Nat) : Prop :=
  ∃ (w : Value) (E : Hp → Nat → Prop), Pw w ∧ Cal v M d 0 0 (.ref x :: as) h top (fun r h1 top1 => r = some w ∧ E h1 top1) noX ∧
    ∀ h1 top1, E h1 top1 → (∃ fs, h1 (x + 96) = some (ob 11 fs)) ∧ Cal v Mm dm 0 0 (.ref (x + 96) :: as) h1 top1 (fun r h2 top2 => r = some w ∧ top1 = top2 ∧ ∃ Z' S', Inv v h2 top2 x Z' S') noX
def anI (w : Value) : Prop := ∃ b : Int32, w = .int b
def anJ (w : Value) : Prop := ∃ b : Int64, w = .long b
theorem w_int (w : Int32) : ∃ z : Int, inI z ∧ w = zI z := ⟨w.toInt, ⟨Int32.le_toInt w, Int.le_of_lt_add_one (Int32.toInt_lt w)⟩, (Int32.ofInt_toInt w).symm⟩
theorem l_int (w : Int64) : ∃ z : Int, inL z ∧ w = lI z := ⟨w.toInt, ⟨Int64.le_toInt w, Int.le_of_lt_add_one (Int64.toInt_lt w)⟩, (Int64.ofInt_toInt w).symm⟩
theorem isI_ok {A B : Int32} (h : A = B) : isI 0 B.toInt64 (iT 0 A) := ⟨A, congrArg Value.int (if_pos rfl), fun _ => by rw [h]⟩
theorem isJ_ok {A B : Int64} (h : A = B) : isJ 0 B (lT 0 A) := ⟨A, congrArg Value.long (if_pos rfl), fun _ => h⟩
theorem isI_no {t : Nat} {y : Int64} {A : Int32} (h : t ≠ 0) : isI t y (iT t A) := ⟨_, rfl, fun z => absurd z h⟩
theorem isJ_no {t : Nat} {y : Int64} {A : Int64} (h : t ≠ 0) : isJ t y (lT t A) := ⟨_, rfl, fun z => absurd z h⟩
theorem vt_cases (G : GT) (z : Int) : (∃ i : Nat, z = i ∧ i < G.n ∧ vtT G z = 0) ∨ ((z < 0 ∨ (G.n : Int) ≤ z) ∧ vtT G z = 1) := by
  by_cases c : 0 ≤ z ∧ z < G.n
  · exact Or.inl ⟨z.toNat, by omega, by omega, if_pos c⟩
  · exact Or.inr ⟨by omega, if_neg c⟩
theorem wfG.okL {G : GT} (h : wfG G) : okL G := fun i hi => by
  obtain ⟨e1, e2, -⟩ := h.2.1 i hi
  have := h.1.1
  omega
section
variable {v : Ev} {h h1 : Hp} {top top1 x : Nat} {Z Z' : CS} {S S' : MS}
theorem EX.mid (e : EX v h top x Z' h1 top1) (I : Inv v h top x Z S) : mH v h1 (x + 96) S = h1 := by
  refine (mH_ext (fun k hk => ?_) (fun _ _ => rfl)).symm
  have := I.2.2.2.1.1
  rw [e.2.2.1 (x + 96 + k) (by omega) (by omega) (by omega)]
  exact (congrFun I.2.1 (x + 96 + k)).symm.trans (mH_at hk)
theorem EX.mo (e : EX v h top x Z' h1 top1) (I : Inv v h top x Z S) : ∃ fs, h1 (x + 96) = some (ob 11 fs) := ⟨_, (congrFun (e.mid I) (x + 96)).symm.trans mH_0⟩
theorem EX.fr (e : EX v h top x Z' h1 top1) : frL h (mH v h1 (x + 96) S') x top := fun a ha => (mH_out (by omega)).trans (e.2.2.1 a (by omega) (by omega) (by omega))
theorem Inv.fin (I : Inv v h top x Z S) (e : EX v h top x Z' h1 top1) (R : Rel v (mH v h1 (x + 96) S') top1 x Z' S') : Inv v (mH v h1 (x + 96) S') top1 x Z' S' := by
  obtain ⟨e1, e2, e3, ⟨fo, e4⟩, fd, e5⟩ := e
  have := I.2.2.2.1.1
  exact ⟨e2.frame (fun a _ _ => mH_out (by omega)), mH_mH, ⟨⟨fo, (mH_out (by omega)).trans e4⟩, fd, (mH_out (by omega)).trans e5⟩, ⟨by omega, I.2.2.2.1.2⟩, R⟩
theorem mkB {L Mm : Md} {as : List Value} {Pw : Nat → Int64 → Value → Prop} {dm t d mc ms : Nat} {y : Int64} {w : Value} (I : Inv v h top x Z S) (hd : t ≤ 3 ∧ d ≤ 11 ∧ mc ≤ 1 ∧ ms ≤ 600)
    (hC : Cal v L d mc ms (.ref x :: (as ++ [.ref (x + 110)])) h top (fun r h1 top1 => r = some (.int (nI t)) ∧ EX v h top x Z' h1 top1 ∧ ∃ fo, h1 (x + 110) = some (aJ v 1 fo) ∧ (t = 0 → fo 0 = y)) noX)
    (hM : ∀ h0 top0, Cal v Mm dm 0 0 (.ref (x + 96) :: as) (mH v h0 (x + 96) S) top0 (fun r h2 top2 => r = some w ∧ top0 = top2 ∧ ∃ S', h2 = mH v h0 (x + 96) S' ∧ S'.thr = t ∧ Rel v h top x Z' S') noX) (hw : Pw t y w) : PairB v x L Mm as Pw dm h top := by
  refine ⟨t, y, d, mc, ms, EX v h top x Z', hd, hC, fun h1 top1 e => ⟨e.mo I, ?_⟩⟩
  have k := hM h1 top1
  rw [e.mid I] at k
  refine k.mono ?_
  rintro r h2 top2 ⟨q1, q2, S', q3, q4, q5⟩
  subst q3 q2
  exact ⟨w, q1, hw, rfl, mH_out (by omega), Z', S', I.fin e (q5.frame e.fr e.1), q4⟩
theorem mkA {M Mm : Md} {as : List Value} {Pw : Value → Prop} {d dm : Nat} {w : Value} (I : Inv v h top x Z S) (hC : Cal v M d 0 0 (.ref x :: as) h top (pM v h top x Z' (some w)) noX)
    (hM : ∀ h0 top0, Cal v Mm dm 0 0 (.ref (x + 96) :: as) (mH v h0 (x + 96) S) top0 (fun r h2 top2 => r = some w ∧ top0 = top2 ∧ ∃ S', h2 = mH v h0 (x + 96) S' ∧ Rel v h top x Z' S') noX) (hw : Pw w) : PairA v x M Mm as Pw d dm h top := by
  refine ⟨w, EX v h top x Z', hw, hC.mono ?_, fun h1 top1 e => ⟨e.mo I, ?_⟩⟩
  · rintro r h1 top1 ⟨q1, q2, q3, q4⟩
    subst q2
    obtain ⟨-, -, ⟨⟨fo, hfo⟩, fd, hfd⟩, ⟨ht, -⟩, -⟩ := I
    exact ⟨q1, Nat.le_refl _, q3, fun a ha _ _ => q4 a (by omega), ⟨fo, (q4 _ (by omega)).trans hfo⟩, fd, (q4 _ (by omega)).trans hfd⟩
  · have k := hM h1 top1
    rw [e.mid I] at k
    refine k.mono ?_
    rintro r h2 top2 ⟨q1, q2, S', q3, q4⟩
    subst q3 q2
    exact ⟨q1, rfl, Z', S', I.fin e (q4.frame e.fr e.1)⟩
/-- the wrapper's call went well -/
theorem nrm {L : Md} {av : List Value} {d mc ms : Nat} {y : Int64} (I : Inv v h top x Z S) (hC : Cal v L d mc ms av h top (fun r h' top' => r = some (.int (nI 0)) ∧ ∃ h1 fo, (top = top' ∧ okX v h1 x Z' ∧ frX h h1 x) ∧ h1 (x + 110) = some (aJ v 1 fo) ∧ h' = hp h1 (x + 110) (aJ v 1 (vp_updL fo 0 y))) noX) :
    Cal v L d mc ms av h top (fun r h1 top1 => r = some (.int (nI 0)) ∧ EX v h top x Z' h1 top1 ∧ ∃ fo, h1 (x + 110) = some (aJ v 1 fo) ∧ (0 = 0 → fo 0 = y)) noX := by
  refine hC.mono ?_
  rintro r h' top' ⟨q1, h1, fo, ⟨q2, q3, q4⟩, q5, rfl⟩
  subst q2
  obtain ⟨-, -, ⟨-, fd, hfd⟩, ⟨ht, -⟩, -⟩ := I
  exact ⟨q1, ⟨Nat.le_refl _, q3.frame (fun a _ _ => hp_ne _ _ (by omega)), fun a ha n1 n2 => (hp_ne _ _ n1).trans (q4 a (by omega)), ⟨_, hp_eq _ _ _⟩, fd, (hp_ne _ _ (by omega)).trans ((q4 _ (by omega)).trans hfd)⟩, _, hp_eq _ _ _, fun _ => if_pos rfl⟩
/-- the wrapper caught -/
theorem thw {L : Md} {av : List Value} {d mc ms t : Nat} {y : Int64} {Q : Hp → Nat → Prop} (I : Inv v h top x Z S) (hC : Cal v L d mc ms av h top (fun r h' top' => r = some (.int (nI t)) ∧ Q h' top') noX) (hQ : ∀ h' top', Q h' top' → okX v h' x Z ∧ frX h h' x ∧ top ≤ top') (ht0 : t ≠ 0) :
    Cal v L d mc ms av h top (fun r h1 top1 => r = some (.int (nI t)) ∧ EX v h top x Z h1 top1 ∧ ∃ fo, h1 (x + 110) = some (aJ v 1 fo) ∧ (t = 0 → fo 0 = y)) noX := by
  refine hC.mono ?_
  rintro r h' top' ⟨q1, q⟩
  obtain ⟨q2, q3, q4⟩ := hQ _ _ q
  obtain ⟨-, -, ⟨⟨fo, hfo⟩, fd, hfd⟩, ⟨ht, -⟩, -⟩ := I
  exact ⟨q1, ⟨q4, q2, fun a ha _ _ => q3 a (by omega), ⟨fo, (q3 _ (by omega)).trans hfo⟩, fd, (q3 _ (by omega)).trans hfd⟩, fo, (q3 _ (by omega)).trans hfo, fun z => absurd z ht0⟩
theorem xQ (I : Inv v h top x Z S) : ∀ h' top', (h' = h ∧ top ≤ top') → okX v h' x Z ∧ frX h h' x ∧ top ≤ top' := by
  rintro h' top' ⟨rfl, q⟩
  exact ⟨I.1, frX.rfl, q⟩
theorem oJ (I : Inv v h top x Z S) : ∀ h' top', (top = top' ∧ okX v h' x Z' ∧ frX h h' x) → ∃ fo, h' (x + 110) = some (aJ v 1 fo) := by
  rintro h' top' ⟨q1, q2, q3⟩
  obtain ⟨-, -, ⟨⟨fo, hfo⟩, -⟩, -⟩ := I
  exact ⟨fo, (q3 _ (by omega)).trans hfo⟩
theorem refQ {Mm : Md} {as : List Value} {dm t : Nat} {w : Value} (I : Inv v h top x Z S) (hM : ∀ h0 top0, Cal v Mm dm 0 0 (.ref (x + 96) :: as) (mH v h0 (x + 96) S) top0 (pA v h0 (x + 96) S top0 w t) noX) :
    ∀ h0 top0, Cal v Mm dm 0 0 (.ref (x + 96) :: as) (mH v h0 (x + 96) S) top0 (fun r h2 top2 => r = some w ∧ top0 = top2 ∧ ∃ S', h2 = mH v h0 (x + 96) S' ∧ S'.thr = t ∧ Rel v h top x Z S') noX := fun h0 top0 => (hM h0 top0).mono (by
  rintro r h2 top2 ⟨q1, q2, S', q3, q4, q5⟩
  exact ⟨q1, q2, S', q3, q5, I.2.2.2.2.per q4⟩)
theorem refA {Mm : Md} {as : List Value} {dm t : Nat} {w : Value} (I : Inv v h top x Z S) (hM : ∀ h0 top0, Cal v Mm dm 0 0 (.ref (x + 96) :: as) (mH v h0 (x + 96) S) top0 (pA v h0 (x + 96) S top0 w t) noX) :
    ∀ h0 top0, Cal v Mm dm 0 0 (.ref (x + 96) :: as) (mH v h0 (x + 96) S) top0 (fun r h2 top2 => r = some w ∧ top0 = top2 ∧ ∃ S', h2 = mH v h0 (x + 96) S' ∧ Rel v h top x Z S') noX := fun h0 top0 => (hM h0 top0).mono (by
  rintro r h2 top2 ⟨q1, q2, S', q3, q4, q5⟩
  exact ⟨q1, q2, S', q3, I.2.2.2.2.per q4⟩)
theorem refC {Mm : Md} {as : List Value} {dm t : Nat} {w : Value} {f : Nat → Nat} (hM : ∀ h0 top0, Cal v Mm dm 0 0 (.ref (x + 96) :: as) (mH v h0 (x + 96) S) top0 (pCg v h0 (x + 96) S top0 w t f) noX) (h0t : t = 0 → ∀ S', chd S S' f → Rel v h top x Z' S') (hnt : t ≠ 0 → ∀ S', per S S' → Rel v h top x Z' S') :
    ∀ h0 top0, Cal v Mm dm 0 0 (.ref (x + 96) :: as) (mH v h0 (x + 96) S) top0 (fun r h2 top2 => r = some w ∧ top0 = top2 ∧ ∃ S', h2 = mH v h0 (x + 96) S' ∧ S'.thr = t ∧ Rel v h top x Z' S') noX := fun h0 top0 => (hM h0 top0).mono (by
  rintro r h2 top2 ⟨q1, q2, S', q3, q4, q5, q6⟩
  refine ⟨q1, q2, S', q3, q4, ?_⟩
  by_cases c : t = 0
  · exact h0t c S' (q6 c)
  · exact hnt c S' (q5 c))
theorem Inv.cur (I : Inv v h top x Z S) : ∃ (cn : Nat) (cc : Nat → Int), RW S Z.2.1 cn cc ∧ okC v h x Z.2.1 cn cc := I.2.2.2.2.cur
theorem Inv.okZ (I : Inv v h top x Z S) : okZ Z := I.2.2.2.2.okZ
theorem Inv.can (I : Inv v h top x Z S) : canB Z.2.1 := I.2.2.2.2.can
end

