/-! ===== absorbing vertices and joins on both sides ===== -/
theorem num_iff {B : Nat → Nat} {n x y : Nat} (hx : x < n) (hy : y < n) : (nmG B n).1 x = (nmG B n).1 y ↔ B x = B y := by
  have key : ∀ k j, k < j → j < n → ((nmG B n).1 k = (nmG B n).1 j ↔ B k = B j) := fun k j h1 h2 => (grp_iff n (eqv_qB B n) k j h1 h2).trans qB_t
  rcases Nat.lt_trichotomy x y with q | q | q
  · exact key x y q hy
  · rw [q]
    exact ⟨fun _ => rfl, fun _ => rfl⟩
  · have e := key y x q hx
    exact ⟨fun h => (e.mp h.symm).symm, fun h => (e.mpr h.symm).symm⟩
theorem GT.num_B {G : GT} {x y : Nat} (hx : x < G.n) (hy : y < G.n) : G.num.B x = G.num.B y ↔ G.B x = G.B y := by
  show (numL G.B G.n).1 x = (numL G.B G.n).1 y ↔ _
  rw [(numL_nm G.n).2 x hx, (numL_nm G.n).2 y hy]
  exact num_iff hx hy
section
variable {R : RD} {S : MS}
theorem GR.same {G G' : GT} {f f' : Nat → Nat} (g : GR G f) (wf : wfG G') (can : canB G') (hn : G'.n = G.n) (he : G'.e = G.e) (hL : G'.L = G.L) (hH : G'.H = G.H) (hW : G'.W = G.W) (h0 : f' 0 = f 0) (h1 : f' 1 = f 1) (h2 : G'.a = f' 2) (h3 : ∀ k, 4 ≤ k → k < 49 → f' k = f k) (h4 : ∀ x y, x < G.n → y < G.n → (G'.B x = G'.B y ↔ f' (49 + x) = f' (49 + y))) : GR G' f' := by
  obtain ⟨⟨g1, g2, g3⟩, ⟨g4, g5, g6⟩, g7, g8⟩ := g
  have h15 := g2.1.2.1
  refine ⟨⟨by omega, wf, can⟩, ⟨by omega, by omega, h2⟩, fun k hk => ?_, fun x y hx hy => ?_⟩
  · rw [he] at hk
    rw [hL, hH, hW, h3 _ (by omega) (by omega), h3 _ (by omega) (by omega), h3 _ (by omega) (by omega)]
    exact g7 k hk
  · rw [hn] at hx hy
    exact h4 x y hx hy
theorem abs_sim (h : Syn R S) (g : GR R.G S.red) : (∃ R', rdAbs R = (true, R') ∧ Syn R' S.abL ∧ GR R'.G S.abL.red ∧ R'.T = R.T ∧ (R'.hc = R.hc ∧ R'.cl = R.cl ∧ R'.cd = R.cd) ∧ ∀ k, k = 3 ∨ 56 ≤ k → S.abL.red k = S.red k) ∨ Fl (rdAbs R) S.abL := by
  rcases vtx_sim h g with ⟨a1, a2, a3, a4, a5, a6⟩ | n
  rotate_left
  · right
    have e : S.ab2 = S.rvS := by
      unfold MS.ab2
      rw [if_neg (fun z => n.err z.1)]
    have e2 : S.abL = S.rvS := by
      unfold MS.abL
      rw [e, if_neg n.err]
    rw [e2]
    unfold rdAbs
    rw [if_pos n.1]
    exact ⟨rfl, n.2⟩
  have ha : S.red 2 = R.G.a := g.2.1.2.2.symm
  have h6 := g.1.2.1.1.1
  have h64 := g.1.2.1.1.2.2.1
  unfold rdAbs
  rw [a1, if_neg (by intro z; cases z)]
  by_cases c : R.G.a.testBit R.take.vl = true
  · right
    have e : S.ab2 = S.rvS.fls (-4) S.rvS.beg := by
      unfold MS.ab2
      rw [if_pos ⟨a2.2.1, by rw [a5, ha, ← a3]; exact c⟩]
    have F : Fl (false, R.take.fail (-4)) (S.rvS.fls (-4) S.rvS.beg) := Fl.mk' (by omega) a2.2.1 a4.symm
    have e2 : S.abL = S.rvS.fls (-4) S.rvS.beg := by
      unfold MS.abL
      rw [e, if_neg F.err]
    rw [e2]
    show Fl (if R.G.a.testBit R.take.vl = true then _ else _) _
    rw [if_pos c]
    exact F
  · left
    have e : S.ab2 = S.rvS := by
      unfold MS.ab2
      rw [if_neg (fun z => c (by have := z.2; rw [a5, ha, ← a3] at this; exact this))]
    have e2 : S.abL = S.rvS.s_red (upN S.red 2 (S.red 2 ||| 2 ^ S.rvR)) := by
      unfold MS.abL
      rw [e, if_pos a2.2.1, a5]
    have lt : R.G.a ||| 2 ^ S.rvR < 64 := bs_or_lt (n := 6) h64 (Nat.pow_lt_pow_right (by omega) (by omega))
    refine ⟨R.take.sG (R.G.sc R.G.n R.G.e (R.G.a ||| 2 ^ S.rvR) R.G.b), ?_, ?_, ?_, rfl, ⟨rfl, rfl, rfl⟩, ?_⟩
    · show (if R.G.a.testBit R.take.vl = true then _ else (true, R.take.sG (R.G.sc R.G.n R.G.e (R.G.a ||| 2 ^ R.take.vl) R.G.b))) = _
      rw [if_neg c, a3]
    · rw [e2]
      exact (a2.sG _).red _
    · rw [e2]
      show GR (R.G.sc R.G.n R.G.e (R.G.a ||| 2 ^ S.rvR) R.G.b) (upN S.red 2 (S.red 2 ||| 2 ^ S.rvR))
      refine GR.same g (wf_sc g.1.2.1 lt) g.1.2.2 rfl rfl rfl rfl rfl ?_ ?_ ?_ ?_ ?_
      · exact upN_ne _ _ (show (0 : Nat) ≠ 2 by omega)
      · exact upN_ne _ _ (show (1 : Nat) ≠ 2 by omega)
      · show R.G.a ||| 2 ^ S.rvR = upN S.red 2 (S.red 2 ||| 2 ^ S.rvR) 2
        rw [upN_eq, ha]
      · exact fun k h1 h2 => upN_ne _ _ (by omega)
      · intro x y hx hy
        show R.G.B x = R.G.B y ↔ upN S.red 2 (S.red 2 ||| 2 ^ S.rvR) (49 + x) = upN S.red 2 (S.red 2 ||| 2 ^ S.rvR) (49 + y)
        rw [upN_ne _ _ (by omega), upN_ne _ _ (by omega)]
        exact g.2.2.2 x y hx hy
    · intro k hk
      rw [e2]
      exact upN_ne _ _ (by omega)
theorem join_sim (h : Syn R S) (g : GR R.G S.red) : (∃ R', rdJoin R = (true, R') ∧ Syn R' S.jnL ∧ GR R'.G S.jnL.red ∧ R'.T = R.T ∧ (R'.hc = R.hc ∧ R'.cl = R.cl ∧ R'.cd = R.cd) ∧ ∀ k, k = 3 ∨ 56 ≤ k → S.jnL.red k = S.red k) ∨ Fl (rdJoin R) S.jnL := by
  rcases vtx_sim h g with ⟨a1, a2, a3, a4, a5, a6⟩ | n
  rotate_left
  · right
    have e : S.rvS.rvS = S.rvS := rdS_n n.err _ _
    have e2 : S.jnL = S.rvS := by
      unfold MS.jnL
      rw [e, if_neg n.err]
    rw [e2]
    unfold rdJoin
    rw [if_pos n.1]
    exact ⟨rfl, n.2⟩
  have g2 : GR R.take.G S.rvS.red := by rw [a5]; exact g
  rcases vtx_sim a2 g2 with ⟨b1, b2, b3, b4, b5, b6⟩ | n
  rotate_left
  · right
    have e2 : S.jnL = S.rvS.rvS := by
      unfold MS.jnL
      rw [if_neg n.err]
    rw [e2]
    unfold rdJoin
    rw [a1, if_neg (by intro z; cases z), if_pos n.1]
    exact ⟨rfl, n.2⟩
  left
  have gn : R.take.G = R.G := rfl
  rw [gn] at b6
  have h6 := g.1.2.1.1.1
  have hred : S.rvS.rvS.red = S.red := b5.trans a5
  have e2 : S.jnL = S.rvS.rvS.s_red (rlF S.red 49 (S.red 0) (S.red (49 + S.rvS.rvR)) (S.red (49 + S.rvR))) := by
    unfold MS.jnL
    rw [if_pos b2.2.1, hred]
  refine ⟨R.take.take.sG (R.G.unite S.rvR S.rvS.rvR), ?_, ?_, ?_, rfl, ⟨rfl, rfl, rfl⟩, ?_⟩
  · unfold rdJoin
    rw [a1, if_neg (by intro z; cases z), b1, if_neg (by intro z; cases z)]
    show (true, R.take.take.sG (R.G.unite R.take.vl R.take.take.vl)) = _
    rw [a3, b3]
  · rw [e2]
    exact (b2.sG _).red _
  · rw [e2]
    show GR (R.G.unite S.rvR S.rvS.rvR) (rlF S.red 49 (S.red 0) (S.red (49 + S.rvS.rvR)) (S.red (49 + S.rvR)))
    generalize S.rvR = A at *
    generalize S.rvS.rvR = B at *
    have out : ∀ k, k < 49 → rlF S.red 49 (S.red 0) (S.red (49 + B)) (S.red (49 + A)) k = S.red k := fun k hk => rlF_out hk
    refine GR.same g (wf_same g.1.2.1 (okG.unite g.1.2.1.1 (by omega)) rfl rfl rfl rfl rfl) GT.num_can rfl rfl rfl rfl rfl (out 0 (by omega)) (out 1 (by omega)) ?_ (fun k h1 h2 => out k h2) (fun x y hx hy => ?_)
    · rw [out 2 (by omega)]
      exact g.2.1.2.2
    · have e : (R.G.unite A B).B x = (R.G.unite A B).B y ↔ unB R.G.B A B R.G.n x = unB R.G.B A B R.G.n y := GT.num_B (G := R.G.sB (unB R.G.B A B R.G.n)) hx hy
      rw [e]
      have gx := g.2.2.2
      have u : ∀ k, k < R.G.n → unB R.G.B A B R.G.n k = if R.G.B k = R.G.B B then R.G.B A else R.G.B k := by
        intro k hk
        unfold unB
        by_cases c : R.G.B k = R.G.B B
        · rw [if_pos ⟨hk, c⟩, if_pos c]
        · rw [if_neg (fun z => c z.2), if_neg c]
      have r : ∀ k, k < R.G.n → rlF S.red 49 (S.red 0) (S.red (49 + B)) (S.red (49 + A)) (49 + k) = if S.red (49 + k) = S.red (49 + B) then S.red (49 + A) else S.red (49 + k) := by
        intro k hk
        have hn := g.2.1.1
        unfold rlF
        by_cases c : S.red (49 + k) = S.red (49 + B)
        · rw [if_pos ⟨⟨by omega, by omega⟩, c⟩, if_pos c]
        · rw [if_neg (fun z => c z.2), if_neg c]
      rw [u x hx, u y hy, r x hx, r y hy]
      by_cases cx : R.G.B x = R.G.B B
      · rw [if_pos cx, if_pos ((gx x B hx b6).mp cx)]
        by_cases cy : R.G.B y = R.G.B B
        · rw [if_pos cy, if_pos ((gx y B hy b6).mp cy)]
          exact ⟨fun _ => rfl, fun _ => rfl⟩
        · rw [if_neg cy, if_neg (fun z => cy ((gx y B hy b6).mpr z))]
          exact gx A y a6 hy
      · rw [if_neg cx, if_neg (fun z => cx ((gx x B hx b6).mpr z))]
        by_cases cy : R.G.B y = R.G.B B
        · rw [if_pos cy, if_pos ((gx y B hy b6).mp cy)]
          exact gx x A hx a6
        · rw [if_neg cy, if_neg (fun z => cy ((gx y B hy b6).mpr z))]
          exact gx x y hx hy
  · intro k hk
    rw [e2]
    have hn := g.2.1.1
    show rlF S.red 49 (S.red 0) (S.red (49 + S.rvS.rvR)) (S.red (49 + S.rvR)) k = S.red k
    rcases hk with hk | hk
    · exact rlF_out (by omega)
    · unfold rlF
      rw [if_neg (fun z => by have := z.1.2; omega)]
end

