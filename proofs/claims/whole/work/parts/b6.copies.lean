/-! ===== a graph and its copy; what holds of a row and of the codes ===== -/
def eqG (A B : GT) : Prop := (A.n = B.n ∧ A.e = B.e ∧ A.a = B.a ∧ A.b = B.b ∧ A.F = B.F) ∧ (∀ k, k < 15 → A.L k = B.L k ∧ A.H k = B.H k) ∧ (∀ k, k < 36 → A.W k = B.W k) ∧ ∀ k, k < 6 → A.B k = B.B k
theorem eqG.refl (A : GT) : eqG A A := ⟨⟨rfl, rfl, rfl, rfl, rfl⟩, fun _ _ => ⟨rfl, rfl⟩, fun _ _ => rfl, fun _ _ => rfl⟩
theorem eqG.symm {A B : GT} (h : eqG A B) : eqG B A := ⟨⟨h.1.1.symm, h.1.2.1.symm, h.1.2.2.1.symm, h.1.2.2.2.1.symm, h.1.2.2.2.2.symm⟩, fun k hk => ⟨(h.2.1 k hk).1.symm, (h.2.1 k hk).2.symm⟩, fun k hk => (h.2.2.1 k hk).symm, fun k hk => (h.2.2.2 k hk).symm⟩
theorem cop_eqG (K G : GT) : eqG G (K.cop G) := ⟨⟨rfl, rfl, rfl, rfl, rfl⟩, fun _ hk => ⟨(if_pos hk).symm, (if_pos hk).symm⟩, fun _ hk => (if_pos hk).symm, fun _ hk => (if_pos hk).symm⟩
section
variable {A B : GT}
theorem eqG.ok (h : eqG A B) (k : okG A) : okG B := by
  obtain ⟨⟨h1, h2, h3, h4, h5⟩, hL, hW, hB⟩ := h
  obtain ⟨k1, k2, k3, k4, k5⟩ := k
  exact ⟨by omega, by omega, by omega, fun i hi => by rw [← hB i hi]; exact k4 i hi, fun i hi => by rw [← hW i hi]; exact k5 i hi⟩
theorem eqG.wf (h : eqG A B) (k : wfG A) : wfG B := by
  have ok := h.ok k.1
  obtain ⟨⟨h1, h2, h3, h4, h5⟩, hL, hW, hB⟩ := h
  obtain ⟨⟨o1, o2, o3, o4, o5⟩, e1, e2, sy, e3, dg⟩ := k
  have W2 : ∀ x y, x < 6 → y < 6 → B.W (x * 6 + y) = A.W (x * 6 + y) := fun x y hx hy => (hW _ (by omega)).symm
  refine ⟨ok, fun i hi => ?_, fun i j hi hj hl hh => ?_, fun x y hx hy => ?_, fun x y hxy hy hn => ?_, fun x hx => ?_⟩
  · obtain ⟨g1, g2, g3⟩ := e1 i (by omega)
    obtain ⟨l1, l2⟩ := hL i (by omega)
    rw [← l1, ← l2, ← h1]
    refine ⟨g1, g2, ?_⟩
    rw [W2 _ _ (by omega) (by omega)]
    exact g3
  · rw [← (hL i (by omega)).1, ← (hL j (by omega)).1] at hl
    rw [← (hL i (by omega)).2, ← (hL j (by omega)).2] at hh
    exact e2 i j (by omega) (by omega) hl hh
  · rw [W2 x y hx hy, W2 y x hy hx]
    exact sy x y hx hy
  · rw [W2 x y (by omega) hy] at hn
    obtain ⟨i, g1, g2, g3⟩ := e3 x y hxy hy hn
    obtain ⟨l1, l2⟩ := hL i (by omega)
    exact ⟨i, by omega, by rw [← l1]; exact g2, by rw [← l2]; exact g3⟩
  · rw [W2 x x hx hx]
    exact dg x hx
theorem nmG_cg {B1 B2 : Nat → Nat} {n : Nat} (h : ∀ k j, k < j → j < n → (B1 k = B1 j ↔ B2 k = B2 j)) : nmG B1 n = nmG B2 n := grp_cong n (fun k y hk hy => by
  have e := h k y hk hy
  unfold qB
  by_cases c : B1 k = B1 y
  · rw [c, e.mp c, beq_self_eq_true, beq_self_eq_true]
  · rw [beq_eq_false_iff_ne.mpr c, beq_eq_false_iff_ne.mpr (fun z => c (e.mpr z))])
theorem eqG.can (h : eqG A B) (hn : A.n ≤ 6) (k : canB A) : canB B := by
  obtain ⟨⟨h1, h2, h3, h4, h5⟩, hL, hW, hB⟩ := h
  have e : nmG B.B B.n = nmG A.B A.n := by
    rw [← h1]
    exact nmG_cg (fun i j hi hj => by rw [hB i (by omega), hB j (by omega)])
  refine ⟨by rw [← h4, e]; exact k.1, fun i hi => ?_⟩
  rw [e, ← hB i (by omega)]
  exact k.2 i (by omega)
theorem eqG.rw {S : MS} (h : eqG A B) (ok : okG A) (wf : wfG A) (k : rwG S A) : rwG S B := by
  obtain ⟨⟨h1, h2, h3, h4, h5⟩, hL, hW, hB⟩ := h
  obtain ⟨k1, k2, k3, k4, k5, k6⟩ := k
  have o1 := ok.1
  have o2 := ok.2.1
  refine ⟨k1, by rw [← h1]; exact k2, by rw [← h2]; exact k3, by rw [← h3]; exact k4, fun i hi => ?_, fun i hi => ?_⟩
  · obtain ⟨g1, g2, -⟩ := wf.2.1 i (by omega)
    obtain ⟨l1, l2⟩ := hL i (by omega)
    rw [← l1, ← l2, ← hW _ (by omega)]
    exact k5 i (by omega)
  · rw [← hB i (by omega)]
    exact k6 i (by omega)
theorem eqG.c {v : Ev} {h : Hp} {x cn : Nat} {cc : Nat → Int} (q : eqG A B) (k : okC v h x A cn cc) : okC v h x B cn cc := by
  have e := q.1.2.2.2.2
  unfold okC at k ⊢
  rw [← e]
  exact k
end
/-- the cells that stand outside of all that calls write: below x, or behind x + 112 -/
def frL (h h' : Hp) (x top : Nat) : Prop := ∀ a, (a < x ∨ (x + 112 ≤ a ∧ a < top)) → h' a = h a
/-- a row with a graph and its codes -/
def RA (S : MS) (G : GT) (cn : Nat) (cc : Nat → Int) : Prop := rwG S G ∧ wfG G ∧ cdA S cn cc
theorem RA.RW {S : MS} {G : GT} {cn : Nat} {cc : Nat → Int} (k : RA S G cn cc) : RW S G cn cc := ⟨k.1, k.2.1, k.2.2.ok G⟩
/-- blocks numbered, and no graph of one vertex -/
def okN (G : GT) : Prop := canB G ∧ G.n ≠ 1
/-- a graph, the row that holds it, and its codes -/
def Cu (v : Ev) (h : Hp) (top x : Nat) (G : GT) (S : MS) (r : Nat) : Prop := okN G ∧ ∃ (cn : Nat) (cc : Nat → Int), RA (S.s_now r) G cn cc ∧ okC v h x G cn cc ∧ (G.F < x ∨ (x + 112 ≤ G.F ∧ G.F < top))
theorem Cu.frame {v : Ev} {h h' : Hp} {top top' x r : Nat} {G : GT} {S : MS} (k : Cu v h top x G S r) (f : frL h h' x top) (ht : top ≤ top') : Cu v h' top' x G S r := by
  obtain ⟨k1, cn, cc, k2, ⟨c1, c2, c3⟩, k4⟩ := k
  refine ⟨k1, cn, cc, k2, ⟨?_, c2, c3⟩, by omega⟩
  rcases c1 with c1 | c1
  · exact Or.inl c1
  · exact Or.inr ((f _ k4).trans c1)
/-- the same rows -/
def rowE (S S' : MS) (r r' : Nat) : Prop := r' < 9 ∧ ∀ k, k < 1240 → S'.rws (1240 * r' + k) = S.rws (1240 * r + k)
/-- a row by its numbers -/
def rwF (f : Nat → Nat) (G : GT) : Prop := f 0 = G.n ∧ f 1 = G.e ∧ f 2 = G.a ∧ (∀ i, i < G.e → f (4 + 3 * i) = G.L i ∧ f (4 + 3 * i + 1) = G.H i ∧ f (4 + 3 * i + 2) = G.W (G.L i * 6 + G.H i)) ∧ ∀ k, k < G.n → f (49 + k) = G.B k
theorem rwF.cong {f g : Nat → Nat} {G : GT} (ok : okG G) (k : rwF f G) (h : ∀ k, k < 1240 → g k = f k) : rwF g G := by
  obtain ⟨k1, k2, k3, k4, k5⟩ := k
  have o1 := ok.1
  have o2 := ok.2.1
  refine ⟨by rw [h 0 (by omega)]; exact k1, by rw [h 1 (by omega)]; exact k2, by rw [h 2 (by omega)]; exact k3, fun i hi => ?_, fun i hi => by rw [h _ (by omega)]; exact k5 i hi⟩
  rw [h _ (by omega), h _ (by omega), h _ (by omega)]
  exact k4 i hi
theorem RA.rowE {S S' : MS} {r r' : Nat} {G : GT} {cn : Nat} {cc : Nat → Int} (e : rowE S S' r r') (k : RA (S.s_now r) G cn cc) : RA (S'.s_now r') G cn cc := by
  have q : rwF (S.s_now r).rw G := k.1.2
  exact ⟨⟨e.1, q.cong k.2.1.1 (fun i hi => e.2 i hi)⟩, k.2.1, k.2.2.row (fun i hi _ => e.2 i hi)⟩
theorem Cu.row {v : Ev} {h : Hp} {top x r r' : Nat} {G : GT} {S S' : MS} (k : Cu v h top x G S r) (e : rowE S S' r r') : Cu v h top x G S' r' := by
  obtain ⟨k1, cn, cc, k2, k3⟩ := k
  exact ⟨k1, cn, cc, k2.rowE e, k3⟩
theorem Cu.eq {v : Ev} {h : Hp} {top x r : Nat} {G G' : GT} {S : MS} (k : Cu v h top x G S r) (e : eqG G G') : Cu v h top x G' S r := by
  obtain ⟨k1, cn, cc, k2, k3, k4⟩ := k
  refine ⟨⟨e.can k2.2.1.1.1 k1.1, fun z => k1.2 (e.1.1.trans z)⟩, cn, cc, ⟨e.rw k2.2.1.1 k2.2.1 k2.1, e.wf k2.2.1, k2.2.2⟩, e.c k3, ?_⟩
  rw [← e.1.2.2.2.2]
  exact k4
/-- what holds of both sides' states -/
def Rel (v : Ev) (h : Hp) (top x : Nat) (Z : CS) (S : MS) : Prop := (Z.1.1 = S.eat ∧ Z.1.2.1 = S.txt ∧ Z.1.2.2 = S.byt ∧ S.byt ≤ 600 ∧ (∀ k, S.txt k < 256)) ∧ (S.now < 9 ∧ Z.2.2.1 < 8 ∧ Z.2.2.2.1 = S.und ∧ S.und ≤ 8) ∧
  Cu v h top x Z.2.1 S S.now ∧ ∀ i, i < S.und → Cu v h top x (Z.2.2.2.2 ((Z.2.2.1 + 7 - i) % 8)) S ((S.now + 8 - i) % 9)
section
variable {v : Ev} {h h' : Hp} {top top' x : Nat} {Z : CS} {S S' : MS}
theorem Rel.frame (k : Rel v h top x Z S) (f : frL h h' x top) (ht : top ≤ top') : Rel v h' top' x Z S := ⟨k.1, k.2.1, k.2.2.1.frame f ht, fun i hi => (k.2.2.2 i hi).frame f ht⟩
theorem Rel.per (k : Rel v h top x Z S) (p : per S S') : Rel v h top x Z S' := by
  obtain ⟨⟨p1, p2, p3, p4⟩, p5, p6⟩ := p
  obtain ⟨⟨a1, a2, a3, a4, a5⟩, ⟨b1, b2, b3, b4⟩, c, d⟩ := k
  have e : ∀ r, r < 9 → rowE S S' r r := fun r hr => ⟨hr, fun k _ => by rw [p5]⟩
  refine ⟨⟨by rw [p4]; exact a1, by rw [p6]; exact a2, by rw [p3]; exact a3, by rw [p3]; exact a4, by rw [p6]; exact a5⟩, ⟨by rw [p1]; exact b1, b2, by rw [p2]; exact b3, by rw [p2]; exact b4⟩, ?_, fun i hi => ?_⟩
  · rw [p1]
    exact c.row (e _ b1)
  · rw [p2] at hi
    rw [p1]
    exact (d i hi).row (e _ (Nat.mod_lt _ (by omega)))
theorem Rel.okZ (k : Rel v h top x Z S) : okZ Z := by
  obtain ⟨⟨a1, a2, a3, a4, a5⟩, ⟨b1, b2, b3, b4⟩, ⟨c1, cn, cc, c2, c3⟩, d⟩ := k
  have ok := c2.2.1.1
  exact ⟨ok, c1.1.b6 ok.1, b2, by omega, by omega⟩
/-- the current graph, as the contracts ask of it -/
theorem Rel.cur (k : Rel v h top x Z S) : ∃ (cn : Nat) (cc : Nat → Int), RW S Z.2.1 cn cc ∧ okC v h x Z.2.1 cn cc := by
  obtain ⟨-, -, ⟨c1, cn, cc, c2, c3, -⟩, -⟩ := k
  exact ⟨cn, cc, RA.RW (S := S) c2, c3⟩
theorem Rel.can (k : Rel v h top x Z S) : canB Z.2.1 := k.2.2.1.1.1
/-- a change: the kept ones move on -/
theorem Rel.chg {f : Nat → Nat} {G : GT} (k : Rel v h top x Z S) (c : chd S S' f) (g : Cu v h top x G S' ((S.now + 1) % 9)) : Rel v h top x (Z.keep.sG G) S' := by
  obtain ⟨⟨a1, a2, a3, a4, a5⟩, ⟨b1, b2, b3, b4⟩, k3, k4⟩ := k
  obtain ⟨⟨c1, c2, c3⟩, c4, c5, c6, c7⟩ := c
  have e : ∀ r, r < 9 → r ≠ (S.now + 1) % 9 → rowE S S' r r := fun r hr hne => ⟨hr, fun k hk => c7 r k hr hk hne⟩
  refine ⟨⟨by rw [c2]; exact a1, by rw [c3]; exact a2, by rw [c1]; exact a3, by rw [c1]; exact a4, by rw [c3]; exact a5⟩, ⟨by rw [c4]; exact Nat.mod_lt _ (by omega), Nat.mod_lt _ (by omega), ?_, by rw [c5]; split <;> omega⟩, by rw [c4]; exact g, fun i hi => ?_⟩
  · show min (Z.2.2.2.1 + 1) 8 = S'.und
    rw [c5, b3]
    split <;> omega
  · have hi8 : i < 8 := by
      rw [c5] at hi
      split at hi <;> omega
    show Cu v h top x ((fun j => if j = Z.2.2.1 then (Z.2.2.2.2 Z.2.2.1).cop Z.2.1 else Z.2.2.2.2 j) (((Z.2.2.1 + 1) % 8 + 7 - i) % 8)) S' ((S'.now + 8 - i) % 9)
    rw [c4]
    by_cases i0 : i = 0
    · subst i0
      have q1 : ((Z.2.2.1 + 1) % 8 + 7 - 0) % 8 = Z.2.2.1 := by omega
      have q2 : ((S.now + 1) % 9 + 8 - 0) % 9 = S.now := by omega
      rw [q1, q2]
      show Cu v h top x (if Z.2.2.1 = Z.2.2.1 then _ else _) S' S.now
      rw [if_pos rfl]
      exact (k3.row (e _ b1 (by omega))).eq (cop_eqG _ _)
    · have q1 : ((Z.2.2.1 + 1) % 8 + 7 - i) % 8 = (Z.2.2.1 + 7 - (i - 1)) % 8 := by omega
      have q2 : ((S.now + 1) % 9 + 8 - i) % 9 = (S.now + 8 - (i - 1)) % 9 := by omega
      rw [q1, q2]
      show Cu v h top x (if (Z.2.2.1 + 7 - (i - 1)) % 8 = Z.2.2.1 then _ else _) S' _
      rw [if_neg (by omega)]
      exact (k4 (i - 1) (by rw [c5] at hi; split at hi <;> omega)).row (e _ (Nat.mod_lt _ (by omega)) (by omega))
/-- undone -/
theorem Rel.und (k : Rel v h top x Z S) (h0 : S.und ≠ 0) (hn : S'.now = (S.now + 8) % 9) (hu : S'.und = S.und - 1) (hr : S'.rws = S.rws) (hb : S'.byt = S.byt ∧ S'.eat = S.eat ∧ S'.txt = S.txt) : Rel v h top x Z.und S' := by
  obtain ⟨⟨a1, a2, a3, a4, a5⟩, ⟨b1, b2, b3, b4⟩, k3, k4⟩ := k
  obtain ⟨c1, c2, c3⟩ := hb
  have e : ∀ r, r < 9 → rowE S S' r r := fun r hr' => ⟨hr', fun k _ => by rw [hr]⟩
  unfold CS.und
  rw [if_neg (by omega)]
  refine ⟨⟨by rw [c2]; exact a1, by rw [c3]; exact a2, by rw [c1]; exact a3, by rw [c1]; exact a4, by rw [c3]; exact a5⟩, ⟨by rw [hn]; exact Nat.mod_lt _ (by omega), Nat.mod_lt _ (by omega), ?_, by omega⟩, ?_, fun i hi => ?_⟩
  · show Z.2.2.2.1 - 1 = S'.und
    omega
  · rw [hn]
    have q := k4 0 (by omega)
    rw [Nat.sub_zero, Nat.sub_zero] at q
    exact (q.row (e _ (Nat.mod_lt _ (by omega)))).eq (cop_eqG _ _)
  · show Cu v h top x (Z.2.2.2.2 (((Z.2.2.1 + 7) % 8 + 7 - i) % 8)) S' ((S'.now + 8 - i) % 9)
    have q1 : ((Z.2.2.1 + 7) % 8 + 7 - i) % 8 = (Z.2.2.1 + 7 - (i + 1)) % 8 := by omega
    have q2 : ((S.now + 8) % 9 + 8 - i) % 9 = (S.now + 8 - (i + 1)) % 9 := by omega
    rw [q1, hn, q2]
    exact (k4 (i + 1) (by omega)).row (e _ (Nat.mod_lt _ (by omega)))
end
/-- a changed row -/
theorem Cu.new {v : Ev} {h : Hp} {top x : Nat} {G G' : GT} {S S' : MS} {f : Nat → Nat} (k : Cu v h top x G S S.now) (hn : S.now < 9) (c : chd S S' f) (hf : ∀ k, k < 1240 → (k = 3 ∨ 56 ≤ k) → f k = S.rw k) (hr : rwF f G') (wf : wfG G') (can : okN G') (hF : G'.F = G.F) : Cu v h top x G' S' ((S.now + 1) % 9) := by
  obtain ⟨k1, cn, cc, k2, k3, k4⟩ := k
  obtain ⟨c1, c2, c3, c4, c5⟩ := c
  have hn' : S'.now < 9 := by rw [c2]; exact Nat.mod_lt _ (by omega)
  rw [← c2]
  refine ⟨can, cn, cc, ⟨⟨hn', hr.cong wf.1 (fun i hi => c4 i hi)⟩, wf, cdA.row (S := S) (S' := S') k2.2.2 (fun i hi hh => (c4 i hi).trans (hf i hi hh))⟩, ?_, by rw [hF]; exact k4⟩
  unfold okC at k3 ⊢
  rw [hF]
  exact k3

