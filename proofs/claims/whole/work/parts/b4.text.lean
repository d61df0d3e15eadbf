/-! ===== the whole text on both sides ===== -/
theorem TL_step {b : Nat → Nat} {len a : Nat} (hl : len ≤ 600) (h : a < len) : (TL b len (a + 1)).length ≤ (TL b len a).length := by
  by_cases c : b a = 32
  · rw [TL_one hl h c]
    exact Nat.le_refl _
  rw [TL_tok hl h c, List.length_cons]
  by_cases e1 : (tok b len a).2 = a + 1
  · rw [e1]
    exact Nat.le_succ _
  have key : a + 1 < len ∧ b (a + 1) ≠ 32 ∧ (tok b len (a + 1)).2 = (tok b len a).2 := by
    unfold tok at e1 ⊢
    by_cases d : isDg (b a) = true
    · rw [if_pos d] at e1 ⊢
      have e1' : a + dgN b len a ≠ a + 1 := e1
      have hp := dgN_pos h d
      obtain ⟨f1, f2, f3⟩ := fstN_spec (fun j => !isDg (b (a + j))) (len - a)
      have f1' : dgN b len a ≤ len - a := f1
      have f2' : ∀ j, j < dgN b len a → (!isDg (b (a + j))) = false := f2
      have f3' : dgN b len a < len - a → (!isDg (b (a + dgN b len a))) = true := f3
      have d1 : isDg (b (a + 1)) = true := by
        have := f2' 1 (by omega)
        simpa using this
      have e2 : dgN b len (a + 1) = dgN b len a - 1 := by
        unfold dgN
        refine fstN_is (by show dgN b len a - 1 ≤ _; omega) (fun j hj => ?_) ?_
        · have hj' : j < dgN b len a - 1 := hj
          rw [show a + 1 + j = a + (j + 1) by omega]
          exact f2' (j + 1) (by omega)
        · show dgN b len a - 1 = _ ∨ (!isDg (b (a + 1 + (dgN b len a - 1)))) = true
          by_cases q : dgN b len a < len - a
          · right
            rw [show a + 1 + (dgN b len a - 1) = a + dgN b len a by omega]
            exact f3' q
          · left
            omega
      have r := isDg_b d1
      refine ⟨by omega, by omega, ?_⟩
      rw [if_pos d1]
      show a + 1 + dgN b len (a + 1) = a + dgN b len a
      omega
    · rw [if_neg d] at e1 ⊢
      by_cases d2 : isLt (b a) = true
      · rw [if_pos d2] at e1 ⊢
        have e1' : a + ltN b len a ≠ a + 1 := e1
        have hp : 0 < ltN b len a := by
          have g := tok_gt (b := b) h
          unfold tok at g
          rw [if_neg d, if_pos d2] at g
          have g' : a < a + ltN b len a := g
          omega
        obtain ⟨f1, f2, f3⟩ := fstN_spec (fun j => !isLt (b (a + j))) (len - a)
        have f1' : ltN b len a ≤ len - a := f1
        have f2' : ∀ j, j < ltN b len a → (!isLt (b (a + j))) = false := f2
        have f3' : ltN b len a < len - a → (!isLt (b (a + ltN b len a))) = true := f3
        have d1 : isLt (b (a + 1)) = true := by
          have := f2' 1 (by omega)
          simpa using this
        have e2 : ltN b len (a + 1) = ltN b len a - 1 := by
          unfold ltN
          refine fstN_is (by show ltN b len a - 1 ≤ _; omega) (fun j hj => ?_) ?_
          · have hj' : j < ltN b len a - 1 := hj
            rw [show a + 1 + j = a + (j + 1) by omega]
            exact f2' (j + 1) (by omega)
          · show ltN b len a - 1 = _ ∨ (!isLt (b (a + 1 + (ltN b len a - 1)))) = true
            by_cases q : ltN b len a < len - a
            · right
              rw [show a + 1 + (ltN b len a - 1) = a + ltN b len a by omega]
              exact f3' q
            · left
              omega
        have r : 97 ≤ b (a + 1) ∧ b (a + 1) ≤ 122 := by unfold isLt at d1; simpa using d1
        have nd : ¬ isDg (b (a + 1)) = true := fun z => by have := isDg_b z; omega
        refine ⟨by omega, by omega, ?_⟩
        rw [if_neg nd, if_pos d1]
        show a + 1 + ltN b len (a + 1) = a + ltN b len a
        omega
      · rw [if_neg d2] at e1
        exact absurd rfl e1
  rw [TL_tok hl key.1 key.2.1, List.length_cons, key.2.2]
  exact Nat.le_refl _
theorem TL_mono {b : Nat → Nat} {len a : Nat} (hl : len ≤ 600) : ∀ d, a + d ≤ len → (TL b len (a + d)).length ≤ (TL b len a).length
  | 0, _ => Nat.le_refl _
  | d + 1, h => Nat.le_trans (TL_step (a := a + d) hl (by omega)) (TL_mono hl d (by omega))
theorem txL_n {S : MS} (h : S.err ≠ 0) : ∀ f, txL f S = S
  | 0 => rfl
  | f + 1 => by rw [txL, if_neg h]
theorem ct_tkS {S : MS} (h : I1 S) (h0 : S.err = 0) {i : Nat} (h1 : 1 ≤ i) (h2 : i < 9) (hk : S.see.tkB (i + 24) = true) : S.ct.2 = (S.see.tkS (i + 24)).nxt := by
  have ek := h.1.1.see.2
  have e0 : S.see.err = 0 := h0
  have q : wdEq S.see.txt S.see.kp S.see.ke (i + 24) = true := by
    unfold MS.tkB at hk
    rw [decide_eq_true e0, Bool.true_and] at hk
    exact hk
  have ee : S.see.ke = S.ke := by
    unfold MS.ke
    rw [ek]
    rfl
  have q2 : wdEq S.txt S.kp S.ke (i + 24) = true := by
    rw [ek, ee] at q
    exact q
  rw [ct_wend h1 h2 q2]
  unfold MS.tkS
  rw [if_pos e0, if_pos q, ← ee]
  rfl
theorem stm_ct {S : MS} (h : I1 S) (h0 : S.err = 0) (he : S.stm.err = 0) : S.ct.2 ≤ S.stm.nxt := by
  have is := h.see
  have w := wan_adv (c := 59) (sts_I1 h h0).1.1.1
  have w1 : S.sts.nxt ≤ S.stm.nxt := w.2.1
  have z : S.sts.err = 0 := (wan_err0 he).1
  refine Nat.le_trans ?_ w1
  unfold MS.sts at z ⊢
  split
  · next c =>
    rw [ct_tkS h h0 (i := 2) (by omega) (by omega) c]
    have := (tk_len c).2
    rw [h.1.1.see.2, len29.1] at this
    exact (el_I1 (is.tk 26) (by rw [tkS_red.1, this]; have := h.2.1.2.1; have := h.1.1.kp; show 4 * S.red 1 + 4 ≤ _; omega)).2.2.1
  · next n2 =>
    rw [if_neg n2] at z
    split
    · next c =>
      rw [ct_tkS h h0 (i := 3) (by omega) (by omega) c]
      exact (ab_I1 (is.tk 27)).2.2.1
    · next n3 =>
      rw [if_neg n3] at z
      split
      · next c =>
        rw [ct_tkS h h0 (i := 4) (by omega) (by omega) c]
        exact (jn_I1 (is.tk 28)).2.2.1
      · next n4 =>
        rw [if_neg n4] at z
        split
        · next c =>
          rw [ct_tkS h h0 (i := 5) (by omega) (by omega) c]
          rw [if_pos c] at z
          obtain ⟨c1, c2, c3, c4, c5, c6, c7⟩ := co_I1 h h0 c
          have e1 : (S.see.tkS 29).nxt = S.co1.nxt := by
            unfold MS.co1
            split
            · rfl
            · unfold MS.fls
              split <;> rfl
          rw [e1]
          split
          · next c8 =>
            obtain ⟨d1, d2, d3⟩ := c1 c8
            obtain ⟨g, -⟩ := lv_ok 4 (by omega) S.co1 d1 d2
            exact g.1.2.1
          · exact Nat.le_refl _
        · next n5 =>
          rw [if_neg n5] at z
          rw [fls_0 (show S.see.err = 0 from h0)] at z
          have : (-2 : Int) = 0 := z
          omega
/-- a text read well on both sides -/
def Fin2 (x : Bool × RD) (S : MS) : Prop := x.1 = true ∧ S.err = 0 ∧ I1 S ∧ GR x.2.G S.red ∧ x.2.hc = S.hco ∧ (S.hco = 1 → CdR x.2 S.red) ∧ CO S ∧ LB S
theorem lp_sim {F : Nat} : ∀ f g (R : RD) (S : MS), StR R S → CO S ∧ LB S → okR R → R.T.2.2 ≤ f + R.nx → S.siz < g + S.nxt → Fin2 (rdL F f R) (txL g S) ∨ Fl (rdL F f R) (txL g S)
  | 0, g, R, S, h, _, _, hf, _ => by
    have := h.1.lt
    omega
  | f + 1, 0, R, S, h, _, _, _, hg => by
    have := h.1.1.2.1
    omega
  | f + 1, g + 1, R, S, h, co, ok, hf, hg => by
    obtain ⟨s, i, gr, hc, cd, en⟩ := h
    have tk := s.tk
    have fin := ct_fin (S := S) s.1
    rw [rdL, txL, if_pos s.2.1]
    by_cases c : S.sv = -1
    · left
      rw [if_pos c, if_pos (tk.1.trans (fin.mpr c))]
      exact ⟨rfl, s.2.1, i.see, gr, hc, cd, co⟩
    · rw [if_neg c, if_neg (fun z => c (fin.mp (tk.1.symm.trans z)))]
      have n1 : 1 ≤ R.take.G.n := by
        have := gr.1.1
        show 1 ≤ R.G.n
        omega
      have okt := RD.take_ok ok
      have oks := rdStm_ok (F := F) okt n1
      have hT := rdStm_T (F := F) okt n1
      rcases stm_sim (F := F) ⟨s, i, gr, hc, cd, en⟩ with ⟨R', e, h'⟩ | ⟨R', e, fl⟩
      · rw [e, if_neg (by intro z; cases z)]
        rw [e] at hT oks
        have hT' : R'.T = R.T := hT
        have pr := (stm_I1 i s.2.1)
        have pr2 := pr.2.2 h'.1.2.1
        have sz : S.stm.siz = S.siz := pr.2.1.1.1.2.2.2.2.1
        have tx : S.stm.txt = S.txt := pr.2.1.1.2.2
        have a1 := s.2.2.2.1
        have a2 := h'.1.2.2.2.1
        rw [hT', sz, tx] at a2
        have b1 := TL_ct (b := S.txt) s.1.1 s.1.2.1
        have kk : S.kp < S.siz := Classical.byContradiction (fun z => c (sv_out z))
        rw [if_pos (show skP S.txt S.siz S.nxt < S.siz from kk)] at b1
        have b2 : (TL S.txt S.siz S.stm.nxt).length ≤ (TL S.txt S.siz S.ct.2).length := by
          have l1 := stm_ct i s.2.1 h'.1.2.1
          have l2 := h'.1.1.2.1
          have m := TL_mono (b := S.txt) (a := S.ct.2) s.1.1 (S.stm.nxt - S.ct.2) (by omega)
          rw [show S.ct.2 + (S.stm.nxt - S.ct.2) = S.stm.nxt by omega] at m
          exact m
        have b3 : (TL S.txt S.siz S.nxt).length = (TL S.txt S.siz S.ct.2).length + 1 := by
          rw [b1]
          rfl
        exact lp_sim f g R' S.stm h' ⟨stm_co ⟨s, i, gr, hc, cd, en⟩ co.1 h'.1.2.1, stm_lb ⟨s, i, gr, hc, cd, en⟩ co.2 h'.1.2.1⟩ oks (by rw [hT']; omega) (by rw [sz]; omega)
      · right
        rw [e, if_pos rfl, txL_n fl.err]
        exact fl
theorem gR_cl0 {v : Ev} {G : GT} {f : Nat → Nat} {n : Nat} (h2 : 2 ≤ n) (h6 : n ≤ 6) : GR (G.cl0 v n 6) (upN (zR f) 0 n) := by
  have eB : ∀ k, k < 6 → (G.cl0 v n 6).B k = k := fun k hk => if_pos hk
  have eW : ∀ k, k < 36 → (G.cl0 v n 6).W k = 0 := fun k hk => if_pos hk
  have z0 : ∀ k, 0 < k → k < 49 → upN (zR f) 0 n k = 0 := fun k h1 h2 => by
    rw [upN_ne _ _ (by omega)]
    unfold zR zU
    rw [if_neg (by omega), if_pos (by omega)]
  have z1 : ∀ k, k < 6 → upN (zR f) 0 n (49 + k) = k := fun k hk => by
    rw [upN_ne _ _ (by omega)]
    unfold zR zU
    rw [if_pos (by omega)]
    omega
  have idn : ∀ m, m ≤ 6 → (nmG (G.cl0 v n 6).B m).2 = m ∧ ∀ k, k < m → (nmG (G.cl0 v n 6).B m).1 k = k := by
    intro m
    induction m with
    | zero => exact fun _ => ⟨rfl, fun k hk => by omega⟩
    | succ m ih =>
      intro hm
      obtain ⟨i1, i2⟩ := ih (by omega)
      have e : fstN (fun k => qB (G.cl0 v n 6).B k m) m = m := by
        refine fstN_is (Nat.le_refl _) (fun j hj => ?_) (Or.inl rfl)
        unfold qB
        rw [eB j (by omega), eB m (by omega)]
        exact beq_eq_false_iff_ne.mpr (by omega)
      unfold nmG at i1 i2 ⊢
      rw [grp_s, e, if_neg (Nat.lt_irrefl m)]
      refine ⟨by show _ + 1 = _; rw [i1], fun k hk => ?_⟩
      show upN _ m _ k = k
      by_cases c : k = m
      · rw [c, upN_eq, i1]
      · rw [upN_ne _ _ c]
        exact i2 k (by omega)
  refine ⟨⟨h2, ⟨okG.cl0 h6, fun i hi => absurd hi (Nat.not_lt_zero _), fun i j hi => absurd hi (Nat.not_lt_zero _), fun x y hx hy => ?_, fun x y hxy hy hn => ?_, fun x hx => ?_⟩, ?_, fun k hk => ?_⟩, ⟨?_, ?_, ?_⟩, fun k hk => absurd hk (Nat.not_lt_zero _), fun x y hx hy => ?_⟩
  · rw [eW _ (by omega), eW _ (by omega)]
  · exact absurd (eW _ (by omega)) hn
  · exact eW _ (by omega)
  · exact (idn n h6).1.symm
  · have hk' : k < n := hk
    rw [eB k (by omega)]
    exact ((idn n h6).2 k hk').symm
  · exact (upN_eq _ _ _).symm
  · exact (z0 1 (by omega) (by omega)).symm
  · exact (z0 2 (by omega) (by omega)).symm
  · have hx' : x < n := hx
    have hy' : y < n := hy
    rw [eB x (by omega), eB y (by omega), z1 x (by omega), z1 y (by omega)]
/-- the whole text -/
theorem set_sim {v : Ev} {F : Nat} {R : RD} {S : MS} (ok : okR R.ini) (en : endT R.T) (hb : okB S) (ha : At S.txt S.siz R.ini 0) : Fin2 (rdSetup v F R) S.txs ∨ Fl (rdSetup v F R) S.txs := by
  have s0 : Syn R.ini S.tx0 := ⟨(tx0_ok hb).1, rfl, ha⟩
  obtain ⟨w1, w2⟩ := word_sim s0 (i := 1) (by omega) (by omega)
  have w1' : S.tx0.tkB 25 = true ↔ R.ini.take.kd = 258 := w1
  unfold rdSetup MS.txs
  by_cases c1 : S.tx0.tkB 25 = true
  rotate_left
  · right
    rw [if_pos (fun z => c1 (w1'.mpr z))]
    have e1 : S.tx1 = (S.tx0.tkS 25).fls (-2) (S.tx0.tkS 25).nxt := by
      unfold MS.tx1
      rw [if_neg c1]
    have e2 : S.tx0.tkS 25 = S.tx0.see := by
      unfold MS.tkS
      rw [if_pos (show S.tx0.err = 0 from rfl), if_neg (fun z => c1 (by unfold MS.tkB; rw [decide_eq_true (show S.tx0.err = 0 from rfl), Bool.true_and]; exact z))]
    rw [e2] at e1
    have F1 : Fl (false, R.ini.take.fail (-2)) S.tx1 := by
      rw [e1]
      exact Fl.mk' (by omega) (show S.tx0.see.err = 0 from rfl) s0.tk.2.1
    have F2 : Fl (false, R.ini.take.fail (-2)) S.tx2 := by
      unfold MS.tx2
      rw [rdS_n F1.err]
      exact F1
    have F3 : Fl (false, R.ini.take.fail (-2)) S.tx3 := by
      unfold MS.tx3
      rw [wan_n F2.err]
      exact F2
    rw [txL_n F3.err]
    exact F3
  rw [if_neg (fun z => z (w1'.mp c1))]
  obtain ⟨s1, r1⟩ := w2 c1
  have e1 : S.tx1 = S.tx0.tkS 25 := by
    unfold MS.tx1
    rw [if_pos c1]
  rcases num_sim (a := 2) (b := 6) (A := 2) (B := 6) s1 rfl rfl (by omega) with ⟨n1, n2, n3, n4, n5, n6, n7⟩ | fl
  rotate_left
  · right
    rw [if_pos fl.1]
    have F2 : Fl (rdNum 2 6 R.ini.take) S.tx2 := by
      unfold MS.tx2
      rw [e1]
      exact fl
    have F3 : Fl (rdNum 2 6 R.ini.take) S.tx3 := by
      unfold MS.tx3
      rw [wan_n F2.err]
      exact F2
    rw [txL_n F3.err]
    exact ⟨rfl, F3.2⟩
  rw [n1, if_neg (by intro z; cases z)]
  have s2 : Syn (R.ini.take.take.clr v) S.tx2 := by
    unfold MS.tx2
    rw [e1]
    exact (n2.sG _).red _
  have okt := RD.take_ok (RD.take_ok ok)
  rcases semi_sim s2 with ⟨a1, a2, a3⟩ | fl
  rotate_left
  · right
    rw [if_pos fl.1]
    have F3 : Fl (rdSemi (R.ini.take.take.clr v)) S.tx3 := fl
    rw [txL_n F3.err]
    exact ⟨rfl, F3.2⟩
  rw [show ((true, R.ini.take.take) : Bool × RD).2 = R.ini.take.take from rfl, a1, if_neg (by intro z; cases z)]
  have hv : R.ini.take.take.vl = (S.tx0.tkS 25).rdR 2 6 := n3
  have r3 : S.tx3.red = upN (zR S.red) 0 ((S.tx0.tkS 25).rdR 2 6) := by
    show (S.tx2.wan 59).red = _
    rw [wan_red.1]
    show upN (S.tx1.rdS 2 6).red 0 _ = _
    rw [rdS_red.1, tx_red.1, e1]
  have e0 : S.tx3.err = 0 := a2.2.1
  have h3 : S.tx3.hco = 0 := by
    show (S.tx2.wan 59).hco = 0
    rw [wan_red.2.1]
    exact rdS_red.2.1.trans tx_red.2.1
  have okc : okR (R.ini.take.take.clr v).take := by
    refine RD.take_ok (RD.sG_ok okt ?_)
    rw [hv]
    exact okG.cl0 n7
  have st : StR (R.ini.take.take.clr v).take S.tx3 := by
    refine ⟨a2, tx3_I1 hb e0, ?_, ?_, fun z => ?_, en⟩
    · rw [r3]
      show GR (R.ini.take.take.G.cl0 v R.ini.take.take.vl 6) _
      rw [hv]
      exact gR_cl0 n6 n7
    · rw [h3]
      rfl
    · rw [h3] at z
      cases z
  have sz : S.tx3.siz = S.siz := (tx3_adv hb).1.1.2.2.2.2.1
  have co : CO S.tx3 := fun z => by
    rw [h3] at z
    cases z
  have lb : LB S.tx3 := fun k hk => by
    rw [r3, upN_ne _ _ (by omega)]
    unfold zR zU
    rw [if_pos (by omega)]
    omega
  exact lp_sim R.T.2.2 601 _ S.tx3 st ⟨co, lb⟩ okc (Nat.le_add_right _ _) (by rw [sz]; have := hb.1; omega)

