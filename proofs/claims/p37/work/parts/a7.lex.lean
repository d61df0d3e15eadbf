/-! ===== the tokens of the law's text ===== -/
/-- kind and value of a token -/
def kvT (t : Int × Nat × Nat) : Int × Nat := (t.1, t.2.2)
/-- the tokens from a on, the end behind them -/
def TLk (b : Nat → Nat) (len a : Nat) : List (Int × Nat) := (tks b len 600 a).map kvT ++ [(256, 0)]
theorem tok_gt {b : Nat → Nat} {len a : Nat} (ha : a < len) : a < (tok b len a).2 := by
  unfold tok
  split
  · rename_i h
    show a < a + dgN b len a
    obtain ⟨-, -, e⟩ := fstN_spec (fun j => !isDg (b (a + j))) (len - a)
    by_cases c : dgN b len a = 0
    · unfold dgN at c
      rw [c] at e
      have := e (by omega)
      rw [Nat.add_zero, h] at this
      cases this
    · omega
  · split
    · rename_i h
      show a < a + ltN b len a
      obtain ⟨-, -, e⟩ := fstN_spec (fun j => !isLt (b (a + j))) (len - a)
      by_cases c : ltN b len a = 0
      · unfold ltN at c
        rw [c] at e
        have := e (by omega)
        rw [Nat.add_zero, h] at this
        cases this
      · omega
    · exact Nat.lt_succ_self a
theorem tks_fuel {b : Nat → Nat} {len : Nat} : ∀ f g a, len - a ≤ f → len - a ≤ g → tks b len f a = tks b len g a
  | 0, 0, _, _, _ => rfl
  | 0, g + 1, a, h, _ => by rw [tks, tks, if_neg (by omega)]
  | f + 1, 0, a, _, h => by rw [tks, tks, if_neg (by omega)]
  | f + 1, g + 1, a, h1, h2 => by
    rw [tks, tks]
    by_cases c : a < len
    · rw [if_pos c, if_pos c, tks_fuel f g (a + 1) (by omega) (by omega), tks_fuel f g (tok b len a).2 (by have := tok_gt (b := b) c; omega) (by have := tok_gt (b := b) c; omega)]
    · rw [if_neg c, if_neg c]
section
variable {b : Nat → Nat} {len : Nat}
theorem TLk_end {a : Nat} (h : len ≤ a) : TLk b len a = [(256, 0)] := by
  unfold TLk
  rw [tks, if_neg (by omega)]
  rfl
theorem TLk_tok {a : Nat} (hl : len ≤ 600) (h : a < len) (hb : b a ≠ 32) : TLk b len a = kvT (tok b len a).1 :: TLk b len (tok b len a).2 := by
  unfold TLk
  have e : tks b len 600 a = (tok b len a).1 :: tks b len 599 (tok b len a).2 := by
    rw [tks, if_pos h, if_neg hb]
  rw [e, tks_fuel 599 600 (tok b len a).2 (by have := tok_gt (b := b) h; omega) (by omega)]
  rfl
theorem TLk_one {a : Nat} (hl : len ≤ 600) (h : a < len) (hb : b a = 32) : TLk b len a = TLk b len (a + 1) := by
  unfold TLk
  have e : tks b len 600 a = tks b len 599 (a + 1) := by
    rw [tks, if_pos h, if_pos hb]
  rw [e, tks_fuel 599 600 (a + 1) (by omega) (by omega)]
end
/-- from a on the text reads S, to its end -/
def Suf (b : Nat → Nat) (len a : Nat) (S : List Nat) : Prop := len ≤ 600 ∧ a + S.length = len ∧ ∀ i, i < S.length → b (a + i) = S.getD i 0
theorem Suf.hd {b : Nat → Nat} {len a c : Nat} {S : List Nat} (h : Suf b len a (c :: S)) : b a = c ∧ a < len := by
  have h1 := h.2.1
  rw [List.length_cons] at h1
  have h2 := h.2.2 0 (by rw [List.length_cons]; omega)
  exact ⟨h2, by omega⟩
theorem Suf.tl {b : Nat → Nat} {len a c : Nat} {S : List Nat} (h : Suf b len a (c :: S)) : Suf b len (a + 1) S := by
  have h1 := h.2.1
  rw [List.length_cons] at h1
  refine ⟨h.1, by omega, fun i hi => ?_⟩
  have h2 := h.2.2 (i + 1) (by rw [List.length_cons]; omega)
  rw [show a + 1 + i = a + (i + 1) by omega, h2]
  rfl
theorem Suf.app {b : Nat → Nat} {len : Nat} {S : List Nat} : ∀ (W : List Nat) (a : Nat), Suf b len a (W ++ S) → Suf b len (a + W.length) S
  | [], a, h => h
  | c :: W, a, h => by
    have := Suf.app W (a + 1) h.tl
    rw [List.length_cons, show a + (W.length + 1) = a + 1 + W.length by omega]
    exact this
section
variable {b : Nat → Nat} {len a : Nat} {S : List Nat}
theorem lx_sp (h : Suf b len a (32 :: S)) : TLk b len a = TLk b len (a + 1) ∧ Suf b len (a + 1) S := ⟨TLk_one h.1 h.hd.2 h.hd.1, h.tl⟩
theorem lx_sg {c : Nat} (h : Suf b len a (c :: S)) (h1 : isDg c = false) (h2 : isLt c = false) (h3 : c ≠ 32) (h4 : c < 128) : TLk b len a = ((c : Int), 0) :: TLk b len (a + 1) ∧ Suf b len (a + 1) S := by
  obtain ⟨e, hl⟩ := h.hd
  refine ⟨?_, h.tl⟩
  have ht : tok b len a = ((sgn c, a, 0), a + 1) := by
    unfold tok
    rw [e, h1, h2, if_neg (by decide), if_neg (by decide)]
  rw [TLk_tok h.1 hl (by rw [e]; exact h3), ht]
  show ((sgn c : Int), 0) :: _ = _
  rw [show sgn c = (c : Int) from if_pos h4]
theorem lx_dg {d c : Nat} (h : Suf b len a (d :: c :: S)) (h1 : isDg d = true) (h2 : isDg c = false) : TLk b len a = (257, d - 48) :: TLk b len (a + 1) ∧ Suf b len (a + 1) (c :: S) := by
  obtain ⟨e, hl⟩ := h.hd
  obtain ⟨e2, hl2⟩ := h.tl.hd
  refine ⟨?_, h.tl⟩
  obtain ⟨d1, d2⟩ := isDg_b h1
  have hn : dgN b len a = 1 := by
    unfold dgN
    refine fstN_is (by omega) (fun j hj => ?_) (Or.inr ?_)
    · rw [show j = 0 by omega, Nat.add_zero, e, h1]
      rfl
    · rw [e2, h2]
      rfl
  have ht : tok b len a = ((257, a, d - 48), a + 1) := by
    unfold tok
    rw [e, h1, if_pos rfl, hn]
    have : numA b a 1 = d - 48 := by
      show min 10000 (0 * 10 + b (a + 0) - 48) = d - 48
      rw [Nat.add_zero, e]
      omega
    rw [this]
  rw [TLk_tok h.1 hl (by rw [e]; omega), ht]
  rfl
/-- a keyword's kind, out of its letters -/
def kdL (W : List Nat) : Nat := if W = stText 1 then 258 else if W = stText 2 then 259 else if W = stText 3 then 260 else if W = stText 4 then 261 else if W = stText 5 then 262 else if W = stText 6 then 263 else if W = stText 7 then 264 else if W = stText 8 then 265 else 266
theorem wdEq_l {W : List Nat} (h : ∀ i, i < W.length → b (a + i) = W.getD i 0) (i : Nat) : wdEq b a (a + W.length) i = decide (W = stText i) := by
  unfold wdEq
  congr 1
  apply propext
  rw [show a + W.length - a = W.length by omega]
  constructor
  · rintro ⟨h1, h2⟩
    apply List.ext_getElem h1
    intro k k1 k2
    have e := h2 k k2
    rw [h k k1] at e
    simpa [List.getD, List.getElem?_eq_getElem k1, List.getElem?_eq_getElem k2] using e
  · intro e
    refine ⟨by rw [e], fun k hk => ?_⟩
    rw [← e] at hk ⊢
    exact h k hk
theorem kdW_l {W : List Nat} (h : ∀ i, i < W.length → b (a + i) = W.getD i 0) : kdW b a (a + W.length) = kdL W := by
  unfold kdW kdL
  simp only [wdEq_l h, decide_eq_true_eq]
theorem lx_wd {c : Nat} (W : List Nat) (h : Suf b len a (W ++ c :: S)) (h0 : W ≠ []) (h1 : ∀ x ∈ W, isLt x = true ∧ isDg x = false) (h2 : isLt c = false) : TLk b len a = ((kdL W : Int), 0) :: TLk b len (a + W.length) ∧ Suf b len (a + W.length) (c :: S) := by
  have h3 := h.app W
  refine ⟨?_, h3⟩
  obtain ⟨e2, hl2⟩ := h3.hd
  have hp : 0 < W.length := List.length_pos_iff.mpr h0
  have hW : ∀ i, i < W.length → b (a + i) = W.getD i 0 := fun i hi => by
    rw [h.2.2 i (by rw [List.length_append]; omega)]
    simp only [List.getD]
    rw [List.getElem?_append_left hi]
  have hm : ∀ i, i < W.length → W.getD i 0 ∈ W := fun i hi => by
    simp only [List.getD, List.getElem?_eq_getElem hi, Option.getD_some]
    exact List.getElem_mem hi
  have e0 := hW 0 hp
  rw [Nat.add_zero] at e0
  obtain ⟨l1, l2⟩ := h1 _ (hm 0 hp)
  have hn : ltN b len a = W.length := by
    unfold ltN
    refine fstN_is (by omega) (fun j hj => ?_) (Or.inr ?_)
    · rw [hW j hj, (h1 _ (hm j hj)).1]
      rfl
    · rw [e2, h2]
      rfl
  have ht : tok b len a = (((kdL W : Int), a, 0), a + W.length) := by
    unfold tok
    rw [e0, l2, l1, if_neg (by decide), if_pos rfl, hn, kdW_l hW]
  have hne : W.getD 0 0 ≠ 32 := by
    intro z
    rw [z] at l1
    exact absurd l1 (by decide)
  rw [TLk_tok h.1 (by omega) (by rw [e0]; exact hne), ht]
  rfl
end
/-- the law's statements: bytes and tokens -/
def wkTx (n : Nat) : List Nat := [119, 97, 108, 107, 32, 48 + n, 59]
def edTx (p q w : Nat) : List Nat := [101, 100, 103, 101, 32, 48 + p, 32, 48 + q, 32, 48 + w, 59]
def abTx (u : Nat) : List Nat := [97, 98, 115, 111, 114, 98, 32, 48 + u, 59]
def coTx : List Nat := [99, 111, 115, 116, 32, 51, 32, 42, 32, 116, 111, 32, 45, 32, 102, 114, 111, 109, 32, 43, 32, 119, 101, 105, 103, 104, 116, 32, 47, 32, 50, 59]
def wkTk (n : Nat) : List (Int × Nat) := [(258, 0), (257, n), (59, 0)]
def edTk (p q w : Nat) : List (Int × Nat) := [(259, 0), (257, p), (257, q), (257, w), (59, 0)]
def abTk (u : Nat) : List (Int × Nat) := [(260, 0), (257, u), (59, 0)]
def coTk : List (Int × Nat) := [(262, 0), (257, 3), (42, 0), (265, 0), (45, 0), (264, 0), (43, 0), (263, 0), (47, 0), (257, 2), (59, 0)]
theorem dgT {d : Nat} (h : d < 10) : isDg (48 + d) = true := decide_eq_true ⟨by omega, by omega⟩
theorem dgS (d : Nat) : 48 + d - 48 = d := by omega
section
variable {b : Nat → Nat} {len a : Nat} {S : List Nat}
theorem lx_wk {n : Nat} (hn : n < 10) (h : Suf b len a (wkTx n ++ S)) : TLk b len a = wkTk n ++ TLk b len (a + 7) ∧ Suf b len (a + 7) S := by
  obtain ⟨e1, h1⟩ := lx_wd [119, 97, 108, 107] (c := 32) h (by decide) (by decide) (by decide)
  obtain ⟨e2, h2⟩ := lx_sp h1
  obtain ⟨e3, h3⟩ := lx_dg h2 (dgT hn) (by decide)
  obtain ⟨e4, h4⟩ := lx_sg h3 (by decide) (by decide) (by decide) (by decide)
  refine ⟨?_, h4⟩
  rw [e1, e2, e3, e4, dgS]
  rfl
theorem lx_ed {p q w : Nat} (hp : p < 10) (hq : q < 10) (hw : w < 10) (h : Suf b len a (edTx p q w ++ S)) : TLk b len a = edTk p q w ++ TLk b len (a + 11) ∧ Suf b len (a + 11) S := by
  obtain ⟨e1, h1⟩ := lx_wd [101, 100, 103, 101] (c := 32) h (by decide) (by decide) (by decide)
  obtain ⟨e2, h2⟩ := lx_sp h1
  obtain ⟨e3, h3⟩ := lx_dg h2 (dgT hp) (by decide)
  obtain ⟨e4, h4⟩ := lx_sp h3
  obtain ⟨e5, h5⟩ := lx_dg h4 (dgT hq) (by decide)
  obtain ⟨e6, h6⟩ := lx_sp h5
  obtain ⟨e7, h7⟩ := lx_dg h6 (dgT hw) (by decide)
  obtain ⟨e8, h8⟩ := lx_sg h7 (by decide) (by decide) (by decide) (by decide)
  refine ⟨?_, h8⟩
  rw [e1, e2, e3, e4, e5, e6, e7, e8, dgS, dgS, dgS]
  rfl
theorem lx_ab {u : Nat} (hu : u < 10) (h : Suf b len a (abTx u ++ S)) : TLk b len a = abTk u ++ TLk b len (a + 9) ∧ Suf b len (a + 9) S := by
  obtain ⟨e1, h1⟩ := lx_wd [97, 98, 115, 111, 114, 98] (c := 32) h (by decide) (by decide) (by decide)
  obtain ⟨e2, h2⟩ := lx_sp h1
  obtain ⟨e3, h3⟩ := lx_dg h2 (dgT hu) (by decide)
  obtain ⟨e4, h4⟩ := lx_sg h3 (by decide) (by decide) (by decide) (by decide)
  refine ⟨?_, h4⟩
  rw [e1, e2, e3, e4, dgS]
  rfl
theorem lx_co (h : Suf b len a (coTx ++ [])) : TLk b len a = coTk ++ [(256, 0)] := by
  obtain ⟨e1, h1⟩ := lx_wd [99, 111, 115, 116] (c := 32) h (by decide) (by decide) (by decide)
  obtain ⟨e2, h2⟩ := lx_sp h1
  obtain ⟨e3, h3⟩ := lx_dg h2 (by decide) (by decide)
  obtain ⟨e4, h4⟩ := lx_sp h3
  obtain ⟨e5, h5⟩ := lx_sg h4 (by decide) (by decide) (by decide) (by decide)
  obtain ⟨e6, h6⟩ := lx_sp h5
  obtain ⟨e7, h7⟩ := lx_wd [116, 111] (c := 32) h6 (by decide) (by decide) (by decide)
  obtain ⟨e8, h8⟩ := lx_sp h7
  obtain ⟨e9, h9⟩ := lx_sg h8 (by decide) (by decide) (by decide) (by decide)
  obtain ⟨e10, h10⟩ := lx_sp h9
  obtain ⟨e11, h11⟩ := lx_wd [102, 114, 111, 109] (c := 32) h10 (by decide) (by decide) (by decide)
  obtain ⟨e12, h12⟩ := lx_sp h11
  obtain ⟨e13, h13⟩ := lx_sg h12 (by decide) (by decide) (by decide) (by decide)
  obtain ⟨e14, h14⟩ := lx_sp h13
  obtain ⟨e15, h15⟩ := lx_wd [119, 101, 105, 103, 104, 116] (c := 32) h14 (by decide) (by decide) (by decide)
  obtain ⟨e16, h16⟩ := lx_sp h15
  obtain ⟨e17, h17⟩ := lx_sg h16 (by decide) (by decide) (by decide) (by decide)
  obtain ⟨e18, h18⟩ := lx_sp h17
  obtain ⟨e19, h19⟩ := lx_dg h18 (by decide) (by decide)
  obtain ⟨e20, h20⟩ := lx_sg h19 (by decide) (by decide) (by decide) (by decide)
  have ee : ∀ x, Suf b len x [] → TLk b len x = [(256, 0)] := fun x h => TLk_end (Nat.le_of_eq h.2.1.symm)
  rw [e1, e2, e3, e4, e5, e6, e7, e8, e9, e10, e11, e12, e13, e14, e15, e16, e17, e18, e19, e20, ee _ h20]
  rfl
end
/-- edges as they are printed, absorbing vertices -/
def edT (l : List (Nat × Nat × Nat)) : List Nat := l.flatMap fun e => edTx e.1 e.2.1 e.2.2
def edK (l : List (Nat × Nat × Nat)) : List (Int × Nat) := l.flatMap fun e => edTk e.1 e.2.1 e.2.2
def abT (l : List Nat) : List Nat := l.flatMap abTx
def abK' (l : List Nat) : List (Int × Nat) := l.flatMap abTk
theorem lx_eds {b : Nat → Nat} {len : Nat} {S : List Nat} : ∀ (l : List (Nat × Nat × Nat)) (a : Nat), (∀ e ∈ l, e.1 < 10 ∧ e.2.1 < 10 ∧ e.2.2 < 10) → Suf b len a (edT l ++ S) → TLk b len a = edK l ++ TLk b len (a + 11 * l.length) ∧ Suf b len (a + 11 * l.length) S
  | [], a, _, h => ⟨rfl, h⟩
  | e :: l, a, hl, h => by
    obtain ⟨q1, q2, q3⟩ := hl e List.mem_cons_self
    have h' : Suf b len a (edTx e.1 e.2.1 e.2.2 ++ (edT l ++ S)) := by
      rw [← List.append_assoc]
      exact h
    obtain ⟨e1, h1⟩ := lx_ed q1 q2 q3 h'
    obtain ⟨e2, h2⟩ := lx_eds l (a + 11) (fun x hx => hl x (List.mem_cons_of_mem _ hx)) h1
    rw [List.length_cons, show a + 11 * (l.length + 1) = a + 11 + 11 * l.length by omega]
    refine ⟨?_, h2⟩
    rw [e1, e2, ← List.append_assoc]
    rfl
theorem lx_abs {b : Nat → Nat} {len : Nat} {S : List Nat} : ∀ (l : List Nat) (a : Nat), (∀ u ∈ l, u < 10) → Suf b len a (abT l ++ S) → TLk b len a = abK' l ++ TLk b len (a + 9 * l.length) ∧ Suf b len (a + 9 * l.length) S
  | [], a, _, h => ⟨rfl, h⟩
  | u :: l, a, hl, h => by
    have q1 := hl u List.mem_cons_self
    have h' : Suf b len a (abTx u ++ (abT l ++ S)) := by
      rw [← List.append_assoc]
      exact h
    obtain ⟨e1, h1⟩ := lx_ab q1 h'
    obtain ⟨e2, h2⟩ := lx_abs l (a + 9) (fun x hx => hl x (List.mem_cons_of_mem _ hx)) h1
    rw [List.length_cons, show a + 9 * (l.length + 1) = a + 9 + 9 * l.length by omega]
    refine ⟨?_, h2⟩
    rw [e1, e2, ← List.append_assoc]
    rfl
/-- the law's whole text and its tokens -/
def lwTx (n : Nat) (E : List (Nat × Nat × Nat)) (A : List Nat) : List Nat := wkTx n ++ (edT E ++ (abT A ++ (coTx ++ [])))
def lwTk (n : Nat) (E : List (Nat × Nat × Nat)) (A : List Nat) : List (Int × Nat) := wkTk n ++ (edK E ++ (abK' A ++ (coTk ++ [(256, 0)])))
theorem lx_all {b : Nat → Nat} {n : Nat} {E : List (Nat × Nat × Nat)} {A : List Nat} (hn : n < 10) (hE : ∀ e ∈ E, e.1 < 10 ∧ e.2.1 < 10 ∧ e.2.2 < 10) (hA : ∀ u ∈ A, u < 10) (hl : (lwTx n E A).length ≤ 600) (hb : ∀ i, i < (lwTx n E A).length → b i = (lwTx n E A).getD i 0) : TLk b (lwTx n E A).length 0 = lwTk n E A := by
  have h0 : Suf b (lwTx n E A).length 0 (lwTx n E A) := ⟨hl, by omega, fun i hi => by rw [Nat.zero_add]; exact hb i hi⟩
  generalize (lwTx n E A).length = len at h0
  obtain ⟨e1, h1⟩ := lx_wk hn (S := edT E ++ (abT A ++ (coTx ++ []))) h0
  obtain ⟨e2, h2⟩ := lx_eds E _ hE h1
  obtain ⟨e3, h3⟩ := lx_abs A _ hA h2
  rw [e1, e2, e3, lx_co h3]
  rfl

