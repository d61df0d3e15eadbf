/-! ===== the two readers side by side: edges, absorbing vertices, joins ===== -/
/-- the graph that is read, on both sides -/
def GR (G : GT) (f : Nat → Nat) : Prop := (2 ≤ G.n ∧ wfG G ∧ canB G) ∧ (G.n = f 0 ∧ G.e = f 1 ∧ G.a = f 2) ∧ (∀ k, k < G.e → G.L k = f (4 + 3 * k) ∧ G.H k = f (4 + 3 * k + 1) ∧ G.W (G.L k * 6 + G.H k) = f (4 + 3 * k + 2)) ∧ ∀ x y, x < G.n → y < G.n → (G.B x = G.B y ↔ f (49 + x) = f (49 + y))
section
variable {R : RD} {S : MS}
theorem Syn.red (h : Syn R S) (f : Nat → Nat) : Syn R (S.s_red f) := h
theorem Syn.sG (h : Syn R S) (G : GT) : Syn (R.sG G) S := h
/-- a vertex's number -/
theorem vtx_sim (h : Syn R S) (g : GR R.G S.red) : (rdVtx R = (true, R.take) ∧ Syn R.take S.rvS ∧ R.take.vl = S.rvR ∧ S.rvS.beg = R.take.st ∧ S.rvS.red = S.red ∧ S.rvR < R.G.n) ∨ Fl (rdVtx R) S.rvS := by
  have h2 := g.1.1
  have h6 := g.1.2.1.1.1
  have e : ((S.red 0 : Nat) - 1 : Int) = ((R.G.n - 1 : Nat) : Int) := by rw [← g.2.1.1]; omega
  have n := num_sim (a := 0) (b := R.G.n - 1) (A := 0) (B := ((S.red 0 : Nat) - 1 : Int)) h rfl e (by omega)
  unfold MS.rvS MS.rvR rdVtx
  rcases n with ⟨a1, a2, a3, a4, a5, -, a7⟩ | n
  · exact Or.inl ⟨a1, a2, a3, a4, a5, by omega⟩
  · exact Or.inr n
theorem el_fail (h : S.rvS.rvS.err ≠ 0) : S.elS = S.rvS.rvS := by
  have e3 : S.el3 = S.rvS.rvS := by
    unfold MS.el3
    rw [if_neg (fun z => h z.1)]
  have e4 : S.el4 = S.rvS.rvS := by
    unfold MS.el4
    rw [e3, rdS_n h]
  unfold MS.elS
  rw [e4, if_neg h]
theorem edge_iff {G : GT} {f : Nat → Nat} (g : GR G f) {a b : Nat} (ha : a < G.n) (hb : b < G.n) (hne : a ≠ b) : G.W (a * 6 + b) ≠ 0 ↔ fstN (fun k => decide (f (4 + 3 * k) = min a b ∧ f (4 + 3 * k + 1) = max a b)) G.e < G.e := by
  obtain ⟨⟨-, wf, -⟩, -, g3, -⟩ := g
  have h6 := wf.1.1
  have sy := wf.2.2.2.1 a b (by omega) (by omega)
  obtain ⟨f1, f2, f3⟩ := fstN_spec (fun k => decide (f (4 + 3 * k) = min a b ∧ f (4 + 3 * k + 1) = max a b)) G.e
  constructor
  · intro h
    have hm : G.W (min a b * 6 + max a b) ≠ 0 := by
      by_cases c : a ≤ b
      · rw [Nat.min_eq_left c, Nat.max_eq_right c]
        exact h
      · rw [Nat.min_eq_right (by omega), Nat.max_eq_left (by omega), ← sy]
        exact h
    obtain ⟨i, i1, i2, i3⟩ := wf.2.2.2.2.1 (min a b) (max a b) (by omega) (by omega) hm
    refine Classical.byContradiction (fun z => ?_)
    have e := of_decide_eq_false (f2 i (by omega))
    obtain ⟨q1, q2, -⟩ := g3 i i1
    exact e ⟨by rw [← q1]; exact i2, by rw [← q2]; exact i3⟩
  · intro h z
    obtain ⟨q1, q2, -⟩ := g3 _ h
    have e := of_decide_eq_true (f3 h)
    exact wf.no ha hb z _ h ⟨by rw [q1]; exact e.1, by rw [q2]; exact e.2⟩
/-- an edge -/
theorem edge_sim (h : Syn R S) (g : GR R.G S.red) : (∃ R', rdEdge R = (true, R') ∧ Syn R' S.elS ∧ GR R'.G S.elS.red ∧ R'.T = R.T ∧ (R'.hc = R.hc ∧ R'.cl = R.cl ∧ R'.cd = R.cd) ∧ ∀ k, k = 3 ∨ 56 ≤ k → S.elS.red k = S.red k) ∨ Fl (rdEdge R) S.elS := by
  rcases vtx_sim h g with ⟨a1, a2, a3, a4, a5, a6⟩ | n
  rotate_left
  · right
    have e : S.rvS.rvS = S.rvS := rdS_n n.err _ _
    rw [el_fail (by rw [e]; exact n.err), e]
    unfold rdEdge
    rw [if_pos n.1]
    exact ⟨rfl, n.2⟩
  have g2 : GR R.take.G S.rvS.red := by rw [a5]; exact g
  rcases vtx_sim a2 g2 with ⟨b1, b2, b3, b4, b5, b6⟩ | n
  rotate_left
  · right
    rw [el_fail n.err]
    unfold rdEdge
    rw [a1, if_neg (by intro z; cases z), if_pos n.1]
    exact ⟨rfl, n.2⟩
  have gn : R.take.G = R.G := rfl
  rw [gn] at b6
  have hred : S.rvS.rvS.red = S.red := b5.trans a5
  have he : S.red 1 = R.G.e := g.2.1.2.1.symm
  have cond : (S.rvR = S.rvS.rvR ∨ S.rvS.rvS.edB S.rvR S.rvS.rvR = true) ↔ (R.take.vl = R.take.take.vl ∨ R.G.W (R.take.vl * 6 + R.take.take.vl) ≠ 0) := by
    rw [a3, b3]
    by_cases c : S.rvR = S.rvS.rvR
    · exact ⟨fun _ => Or.inl c, fun _ => Or.inl c⟩
    · have e := edge_iff g a6 b6 c
      unfold MS.edB
      rw [hred, he, decide_eq_true_eq, e]
  unfold rdEdge
  rw [a1, if_neg (by intro z; cases z), b1, if_neg (by intro z; cases z)]
  have rv0 : S.rvS.rvS.err = 0 := b2.2.1
  by_cases c : R.take.vl = R.take.take.vl ∨ R.G.W (R.take.vl * 6 + R.take.take.vl) ≠ 0
  · right
    have e3 : S.el3 = S.rvS.rvS.fls (-4) S.rvS.rvS.beg := by
      unfold MS.el3
      rw [if_pos ⟨rv0, cond.mpr c⟩]
    have F : Fl (false, R.take.take.fail (-4)) (S.rvS.rvS.fls (-4) S.rvS.rvS.beg) := Fl.mk' (by omega) rv0 b4.symm
    have e4 : S.elS = S.rvS.rvS.fls (-4) S.rvS.rvS.beg := by
      have q : S.el4 = S.rvS.rvS.fls (-4) S.rvS.rvS.beg := by
        unfold MS.el4
        rw [e3, rdS_n F.err]
      unfold MS.elS
      rw [q, if_neg F.err]
    rw [e4]
    show Fl (if R.take.vl = R.take.take.vl ∨ R.G.W (R.take.vl * 6 + R.take.take.vl) ≠ 0 then _ else _) _
    rw [if_pos c]
    exact F
  have e3 : S.el3 = S.rvS.rvS := by
    unfold MS.el3
    rw [if_neg (fun z => c (cond.mp z.2))]
  have w := num_sim (a := 1) (b := 9) (A := 1) (B := 9) b2 rfl rfl (by omega)
  have e4 : S.el4 = S.rvS.rvS.rdS 1 9 := by
    unfold MS.el4
    rw [e3]
  show (∃ R', (if R.take.vl = R.take.take.vl ∨ R.G.W (R.take.vl * 6 + R.take.take.vl) ≠ 0 then _ else _) = (true, R') ∧ _) ∨ Fl (if R.take.vl = R.take.take.vl ∨ R.G.W (R.take.vl * 6 + R.take.take.vl) ≠ 0 then _ else _) _
  rw [if_neg c]
  rcases w with ⟨w1, w2, w3, w4, w5, w6, w7⟩ | n
  rotate_left
  · right
    have e5 : S.elS = S.rvS.rvS.rdS 1 9 := by
      unfold MS.elS
      rw [e4, if_neg n.err]
    rw [e5]
    show Fl (if (rdNum 1 9 R.take.take).1 = false then _ else _) _
    rw [if_pos n.1]
    exact ⟨rfl, n.2⟩
  left
  have e5 : S.elS = (S.rvS.rvS.rdS 1 9).s_red (upN (upN (upN (upN S.red (4 + 3 * S.red 1) (min S.rvR S.rvS.rvR)) (4 + 3 * S.red 1 + 1) (max S.rvR S.rvS.rvR)) (4 + 3 * S.red 1 + 2) (S.rvS.rvS.rdR 1 9)) 1 (S.red 1 + 1)) := by
    unfold MS.elS
    rw [e4, if_pos w2.2.1, w5, hred, e3]
  have hne : S.rvR ≠ S.rvS.rvR := fun z => c (Or.inl (by rw [a3, b3]; exact z))
  have h0 : R.G.W (S.rvR * 6 + S.rvS.rvR) = 0 := Classical.byContradiction (fun z => c (Or.inr (by rw [a3, b3]; exact z)))
  have room := wf_room g.1.2.1 a6 b6 hne h0
  have wf := wf_addE g.1.2.1 a6 b6 hne h0 (w := S.rvS.rvS.rdR 1 9) ⟨w6, w7⟩
  have no := g.1.2.1.no a6 b6 h0
  have hG : R.G.adE R.take.vl R.take.take.vl R.take.take.take.vl = R.G.addE S.rvR S.rvS.rvR (S.rvS.rvS.rdR 1 9) := by
    rw [GT.adE, if_pos (by omega), a3, b3, w3]
  refine ⟨R.take.take.take.sG (R.G.addE S.rvR S.rvS.rvR (S.rvS.rvS.rdR 1 9)), ?_, ?_, ?_, rfl, ⟨rfl, rfl, rfl⟩, ?_⟩
  · show (if (rdNum 1 9 R.take.take).1 = false then _ else (true, (rdNum 1 9 R.take.take).2.sG (R.G.adE R.take.vl R.take.take.vl (rdNum 1 9 R.take.take).2.vl))) = _
    rw [w1, if_neg (by intro z; cases z), hG]
  · rw [e5]
    exact (w2.sG _).red _
  · rw [e5]
    show GR (R.G.addE S.rvR S.rvS.rvR (S.rvS.rvS.rdR 1 9)) (upN (upN (upN (upN S.red (4 + 3 * S.red 1) (min S.rvR S.rvS.rvR)) (4 + 3 * S.red 1 + 1) (max S.rvR S.rvS.rvR)) (4 + 3 * S.red 1 + 2) (S.rvS.rvS.rdR 1 9)) 1 (S.red 1 + 1))
    generalize hA : S.rvR = A at *
    generalize hB : S.rvS.rvR = B at *
    generalize S.rvS.rvS.rdR 1 9 = w at *
    obtain ⟨⟨g1, g2w, g3⟩, ⟨g4, g5, g6⟩, g7, g8⟩ := g
    have h6 := g2w.1.1
    rw [← g5]
    refine ⟨⟨g1, wf, g3⟩, ⟨?_, ?_, ?_⟩, fun k hk => ?_, fun x y hx hy => ?_⟩
    · rw [upN_ne _ _ (by omega), upN_ne _ _ (by omega), upN_ne _ _ (by omega), upN_ne _ _ (by omega)]
      exact g4
    · rw [upN_eq]
      rfl
    · rw [upN_ne _ _ (by omega), upN_ne _ _ (by omega), upN_ne _ _ (by omega), upN_ne _ _ (by omega)]
      exact g6
    · have hk' : k < R.G.e + 1 := hk
      have eL : (R.G.addE A B w).L k = if k = R.G.e then min A B else R.G.L k := rfl
      have eH : (R.G.addE A B w).H k = if k = R.G.e then max A B else R.G.H k := rfl
      rw [eL, eH]
      by_cases c2 : k = R.G.e
      · rw [if_pos c2, if_pos c2, c2]
        have eW : (R.G.addE A B w).W (min A B * 6 + max A B) = w := (pWt_at (by omega) (by omega) (by omega) (by omega)).trans (if_pos (by omega))
        rw [eW]
        refine ⟨?_, ?_, ?_⟩
        · rw [upN_ne _ _ (by omega), upN_ne _ _ (by omega), upN_ne _ _ (by omega), upN_eq]
        · rw [upN_ne _ _ (by omega), upN_ne _ _ (by omega), upN_eq]
        · rw [upN_ne _ _ (by omega), upN_eq]
      · rw [if_neg c2, if_neg c2]
        obtain ⟨q1, q2, q3⟩ := g7 k (by omega)
        obtain ⟨r1, r2, -⟩ := g2w.2.1 k (by omega)
        have nk := no k (by omega)
        have eW : (R.G.addE A B w).W (R.G.L k * 6 + R.G.H k) = R.G.W (R.G.L k * 6 + R.G.H k) := (pWt_at (by omega) (by omega) (by omega) (by omega)).trans (if_neg (by omega))
        rw [eW]
        refine ⟨?_, ?_, ?_⟩
        · rw [upN_ne _ _ (by omega), upN_ne _ _ (by omega), upN_ne _ _ (by omega), upN_ne _ _ (by omega)]
          exact q1
        · rw [upN_ne _ _ (by omega), upN_ne _ _ (by omega), upN_ne _ _ (by omega), upN_ne _ _ (by omega)]
          exact q2
        · rw [upN_ne _ _ (by omega), upN_ne _ _ (by omega), upN_ne _ _ (by omega), upN_ne _ _ (by omega)]
          exact q3
    · rw [upN_ne _ _ (by omega), upN_ne _ _ (by omega), upN_ne _ _ (by omega), upN_ne _ _ (by omega), upN_ne _ _ (by omega), upN_ne _ _ (by omega), upN_ne _ _ (by omega), upN_ne _ _ (by omega)]
      exact g8 x y hx hy
  · intro k hk
    rw [e5]
    show upN (upN (upN (upN S.red (4 + 3 * S.red 1) (min S.rvR S.rvS.rvR)) (4 + 3 * S.red 1 + 1) (max S.rvR S.rvS.rvR)) (4 + 3 * S.red 1 + 2) (S.rvS.rvS.rdR 1 9)) 1 (S.red 1 + 1) k = S.red k
    rw [upN_ne _ _ (by omega), upN_ne _ _ (by omega), upN_ne _ _ (by omega), upN_ne _ _ (by omega)]
end

