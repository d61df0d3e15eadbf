/-! ===== load on both sides ===== -/
/-- where the codes of a draft lie -/
def FI (v : Ev) (F : Nat) (R : RD) : Prop := (R.hc = 0 → R.G.F = oA v 0) ∧ (R.hc = 1 → R.G.F = F)
theorem adE_F (G : GT) (a b w : Nat) : (G.adE a b w).F = G.F := by
  unfold GT.adE
  split <;> rfl
theorem vtx_G (R : RD) : (rdVtx R).2.G = R.G := by
  unfold rdVtx rdNum
  split
  · rfl
  · split <;> rfl
theorem num_G (a b : Nat) (R : RD) : (rdNum a b R).2.G = R.G := by
  unfold rdNum
  split
  · rfl
  · split <;> rfl
theorem semi_G (R : RD) : (rdSemi R).2.G = R.G := by
  unfold rdSemi
  split <;> rfl
theorem edge_F (R : RD) : (rdEdge R).2.G.F = R.G.F := by
  unfold rdEdge
  split
  · show (rdVtx R).2.G.F = _
    rw [vtx_G]
  · split
    · show (rdVtx (rdVtx R).2).2.G.F = _
      rw [vtx_G, vtx_G]
    · split
      · show (rdVtx (rdVtx R).2).2.G.F = _
        rw [vtx_G, vtx_G]
      · split
        · show (rdNum 1 9 (rdVtx (rdVtx R).2).2).2.G.F = _
          rw [num_G, vtx_G, vtx_G]
        · exact adE_F _ _ _ _
theorem abs_F (R : RD) : (rdAbs R).2.G.F = R.G.F := by
  unfold rdAbs
  split
  · show (rdVtx R).2.G.F = _
    rw [vtx_G]
  · split
    · show (rdVtx R).2.G.F = _
      rw [vtx_G]
    · rfl
theorem join_F (R : RD) : (rdJoin R).2.G.F = R.G.F := by
  unfold rdJoin
  split
  · show (rdVtx R).2.G.F = _
    rw [vtx_G]
  · split
    · show (rdVtx (rdVtx R).2).2.G.F = _
      rw [vtx_G, vtx_G]
    · rfl
theorem stm_F {v : Ev} {F : Nat} {R : RD} (ok : okR R) (hn : 1 ≤ R.G.n) (k : FI v F R) (ht : (rdStm F R).1 = true) : FI v F (rdStm F R).2 := by
  have line : ∀ x : Bool × RD, fr5 R x.2 → x.2.G.F = R.G.F → okR x.2 → (if x.1 = false then (false, x.2) else rdSemi x.2).1 = true → FI v F (if x.1 = false then (false, x.2) else rdSemi x.2).2 := by
    intro x f e ok2 h
    by_cases c : x.1 = false
    · rw [if_pos c] at h
      cases h
    · rw [if_neg c]
      have f2 := f.trans (fr5_semi ok2)
      have eg : (rdSemi x.2).2.G.F = R.G.F := by rw [semi_G]; exact e
      unfold FI
      rw [f2.2.1, eg]
      exact k
  unfold rdStm at ht ⊢
  by_cases c1 : R.kd = 259
  · rw [if_pos c1] at ht ⊢
    exact line _ (fr5_edge ok) (edge_F R) (rdEdge_ok ok) ht
  rw [if_neg c1] at ht ⊢
  by_cases c2 : R.kd = 260
  · rw [if_pos c2] at ht ⊢
    exact line _ (fr5_abs ok) (abs_F R) (rdAbs_ok ok hn) ht
  rw [if_neg c2] at ht ⊢
  by_cases c3 : R.kd = 261
  · rw [if_pos c3] at ht ⊢
    exact line _ (fr5_join ok) (join_F R) (rdJoin_ok ok hn) ht
  rw [if_neg c3] at ht ⊢
  by_cases c4 : R.kd = 262
  · rw [if_pos c4] at ht ⊢
    by_cases c5 : (rdCost R).1 = false
    · rw [if_pos c5] at ht
      cases ht
    · rw [if_neg c5]
      have e := (rdCost_fr ok (bT c5)).2.1
      refine ⟨fun z => ?_, fun _ => rfl⟩
      have z' : (rdCost R).2.hc = 0 := z
      omega
  · rw [if_neg c4] at ht
    cases ht
theorem rdL_F {v : Ev} {F : Nat} : ∀ f (R : RD), okR R → 1 ≤ R.G.n → FI v F R → (rdL F f R).1 = true → FI v F (rdL F f R).2
  | 0, R, _, _, _, h => by cases h
  | f + 1, R, ok, hn, k, h => by
    have okt := RD.take_ok ok
    rw [rdL] at h ⊢
    by_cases c : R.take.kd = 256
    · rw [if_pos c]
      exact k
    · rw [if_neg c] at h ⊢
      by_cases c2 : (rdStm F R.take).1 = false
      · rw [if_pos c2] at h
        cases h
      · rw [if_neg c2] at h ⊢
        have fr := rdStm_fr (F := F) okt hn (bT c2)
        refine rdL_F f _ (rdStm_ok okt hn) ?_ (stm_F okt hn k (bT c2)) h
        rw [fr.2.1]
        exact hn
theorem set_F {v : Ev} {F : Nat} {R : RD} (ok : okR R.ini) (h : (rdSetup v F R).1 = true) : FI v F (rdSetup v F R).2 := by
  unfold rdSetup at h ⊢
  by_cases c1 : R.ini.take.kd ≠ 258
  · rw [if_pos c1] at h
    cases h
  rw [if_neg c1] at h ⊢
  by_cases c2 : (rdNum 2 6 R.ini.take).1 = false
  · rw [if_pos c2] at h
    cases h
  rw [if_neg c2] at h ⊢
  obtain ⟨n1, n2, n3⟩ := rdNum_t (bT c2)
  by_cases c3 : (rdSemi ((rdNum 2 6 R.ini.take).2.clr v)).1 = false
  · rw [if_pos c3] at h
    cases h
  rw [if_neg c3] at h ⊢
  have okc : okR ((rdNum 2 6 R.ini.take).2.clr v) := by
    rw [n1]
    exact RD.sG_ok (RD.take_ok (RD.take_ok ok)) (okG.cl0 n3)
  have eG := semi_G ((rdNum 2 6 R.ini.take).2.clr v)
  have f5 := fr5_semi okc
  have h0 : (rdSemi ((rdNum 2 6 R.ini.take).2.clr v)).2.hc = 0 := by
    rw [f5.2.1, n1]
    rfl
  refine rdL_F _ _ (rdSemi_ok okc) ?_ ⟨fun _ => ?_, fun z => ?_⟩ h
  · rw [eG, n1]
    show 1 ≤ R.ini.take.take.vl
    omega
  · rw [eG]
    rfl
  · rw [h0] at z
    cases z
/-- the tokens at the start -/
theorem At_0 {b : Nat → Nat} {hd len : Nat} {t2 : (Nat → Int) × (Nat → Nat) × (Nat → Nat)} {R1 : RD} (hT : R1.T = ((b, 0), (scT b hd len t2).2)) : At b len R1.ini 0 := by
  have e0 : R1.ini.T = ((b, 0), (scT b hd len t2).2) := hT
  have n0 : R1.ini.nx = 0 := rfl
  have ct := TK.adds_ct (TL b len 0) ((b, hd), t2, 0)
  refine ⟨Nat.zero_le _, ?_, fun i hi => ?_⟩
  · rw [n0, e0]
    show 0 + (TL b len 0).length = (TK.adds ((b, hd), t2, 0) (TL b len 0)).2.2
    rw [ct]
  · obtain ⟨k, hk⟩ : ∃ k, (TL b len 0)[i]? = some k := ⟨_, List.getElem?_eq_getElem hi⟩
    obtain ⟨g1, g2, g3⟩ := TK.adds_get (TL b len 0) ((b, hd), t2, 0) i k hk
    rw [n0, e0, List.getD_eq_getElem?_getD, hk]
    show ((TK.adds ((b, hd), t2, 0) (TL b len 0)).2.1.1 (0 + i), (TK.adds ((b, hd), t2, 0) (TL b len 0)).2.1.2.1 (0 + i), (TK.adds ((b, hd), t2, 0) (TL b len 0)).2.1.2.2 (0 + i)) = k
    have g1' : (TK.adds ((b, hd), t2, 0) (TL b len 0)).2.1.1 (0 + i) = k.1 := g1
    have g2' : (TK.adds ((b, hd), t2, 0) (TL b len 0)).2.1.2.1 (0 + i) = k.2.1 := g2
    have g3' : (TK.adds ((b, hd), t2, 0) (TL b len 0)).2.1.2.2 (0 + i) = k.2.2 := g3
    rw [g1', g2', g3']
section
variable {v : Ev} {h h1 : Hp} {top top1 x len : Nat} {Z : CS} {S S' : MS} {R1 : RD}
/-- what the component's load knows of its reader -/
def ldH (Z : CS) (len : Nat) (R1 : RD) : Prop := okR R1.ini ∧ endT R1.T ∧ ∃ t2, tkA ((Z.1.2.1, Z.1.2.2), t2, 0) ∧ R1.T = ((Z.1.2.1, 0), (scT Z.1.2.1 Z.1.2.2 len t2).2)
theorem ld_sim {F : Nat} (k : Rel v h top x Z S) (hl : len ≤ S.byt) (H : ldH Z len R1) : Fin2 (rdSetup v F R1) (S.ldX len) ∨ Fl (rdSetup v F R1) (S.ldX len) := by
  obtain ⟨ok, en, t2, -, hT⟩ := H
  obtain ⟨⟨a1, a2, a3, a4, a5⟩, -⟩ := k
  rw [a2] at hT
  exact set_sim ok en (ldX_ok a4 hl a5) (At_0 hT)
theorem ldX_per (k : Rel v h top x Z S) (hl : len ≤ S.byt) : (S.ldX len).now = S.now ∧ (S.ldX len).und = S.und ∧ (S.ldX len).byt = 0 ∧ (S.ldX len).eat = -1 ∧ (S.ldX len).rws = S.rws ∧ (S.ldX len).txt = S.txt := by
  obtain ⟨⟨a1, a2, a3, a4, a5⟩, -⟩ := k
  obtain ⟨⟨p1, p2, p3, p4, p5, p6⟩, p7, p8⟩ := (txs_per (ldX_ok a4 hl a5)).1
  exact ⟨p1, p2, p3, p4, p7, p8⟩
/-- what the reference asks before it takes the row over -/
theorem ld_ask (k : Rel v h top x Z S) (hl : len ≤ S.byt) (H : ldH Z len R1) (h0 : (S.ldX len).err = 0) : (S.ldX len).red 0 ≤ 6 ∧ (S.ldX len).red 1 ≤ 1000 ∧ ∀ q, q < (S.ldX len).red 0 → (S.ldX len).red (49 + q) ≤ 6 := by
  rcases ld_sim (F := 0) k hl H with ⟨-, -, i, g, -, -, -, lb⟩ | f
  · have h6 := i.2.1.1
    refine ⟨h6, ?_, fun q hq => ?_⟩
    · have := i.2.1.2.1
      have := i.1.1.2.1
      have := i.1.1.1
      omega
    · have := lb q (by omega)
      omega
  · exact absurd h0 f.err
/-- the same answer -/
theorem ld_ans {F : Nat} (k : Rel v h top x Z S) (hl : len ≤ S.byt) (H : ldH Z len R1) : ldR (rdSetup v F R1) = zI (if (S.ldX len).err = 0 then ((S.ldX len).red 1 : Nat) else (S.ldX len).err) := by
  unfold ldR
  rcases ld_sim (F := F) k hl H with ⟨t, e, -, g, -⟩ | f
  · rw [if_pos t, if_pos e, zI_nat, ← g.2.1.2.1]
  · rw [if_neg (by rw [f.1]; intro z; cases z), if_neg f.err, f.2.2.1]
theorem Rel.ofT {T : MS} (k : Rel v h top x Z S) (p : T.now = S.now ∧ T.und = S.und ∧ T.byt = 0 ∧ T.eat = -1 ∧ T.rws = S.rws ∧ T.txt = S.txt) (e : Int) : Rel v h top x ((e, Z.1.2.1, 0), Z.2) (T.s_eat e) := by
  obtain ⟨p1, p2, p3, p4, p5, p6⟩ := p
  obtain ⟨⟨a1, a2, a3, a4, a5⟩, ⟨b1, b2, b3, b4⟩, c, d⟩ := k
  have er : ∀ r, r < 9 → rowE S (T.s_eat e) r r := fun r hr => ⟨hr, fun q _ => by show T.rws _ = _; rw [p5]⟩
  have n1 : (T.s_eat e).now = S.now := p1
  have u1 : (T.s_eat e).und = S.und := p2
  refine ⟨⟨rfl, ?_, ?_, ?_, ?_⟩, ⟨by rw [n1]; exact b1, b2, by rw [u1]; exact b3, by rw [u1]; exact b4⟩, ?_, fun i hi => ?_⟩
  · show Z.1.2.1 = T.txt
    rw [p6]
    exact a2
  · exact p3.symm
  · show T.byt ≤ 600
    omega
  · show ∀ q, T.txt q < 256
    rw [p6]
    exact a5
  · rw [n1]
    exact c.row (er _ b1)
  · rw [u1] at hi
    rw [n1]
    exact (d i hi).row (er _ (Nat.mod_lt _ (by omega)))
/-- a text with an error -/
theorem ld_bad {F : Nat} (k : Rel v h top x Z S) (hl : len ≤ S.byt) (H : ldH Z len R1) (hx : (S.ldX len).err ≠ 0) (p : per ((S.ldX len).s_eat ((S.ldX len).plc : Nat)) S') (fr : frL h h1 x top) (ht : top ≤ top1) : Rel v h1 top1 x (ldZ Z (rdSetup v F R1)) S' := by
  rcases ld_sim (F := F) k hl H with ⟨-, e, -⟩ | f
  · exact absurd e hx
  · have q := (k.ofT (ldX_per k hl) ((S.ldX len).plc : Nat)).frame fr ht
    unfold ldZ
    rw [if_neg (by rw [f.1]; intro z; cases z), f.2.2.2]
    exact q.per p
/-- a text read well -/
theorem ld_good {F : Nat} (k : Rel v h top x Z S) (hl : len ≤ S.byt) (H : ldH Z len R1) (hx : (S.ldX len).err = 0) (c : chd (S.ldX len) S' (nbF (S.ldX len).red)) (fr : frL h h1 x top) (ht : top ≤ top1) (hA : oA v 0 < x) (hR : okR (rdSetup v F R1).2) (hF : (rdSetup v F R1).2.hc = 0 ∨ ((rdSetup v F R1).2.hc = 1 ∧ (x + 112 ≤ F ∧ F < top1) ∧ h1 F = some (aI v (rdSetup v F R1).2.cl (sF (cdC (rdSetup v F R1).2))))) : Rel v h1 top1 x (ldZ Z (rdSetup v F R1)) S' := by
  rcases ld_sim (F := F) k hl H with ⟨t, e, i, g, hc, cd, co, lb⟩ | f
  rotate_left
  · exact absurd hx f.err
  have fi := set_F (v := v) (F := F) H.1 t
  have P := ldX_per k hl
  have q0 := (k.ofT P (-1)).frame fr ht
  have eT : (S.ldX len).s_eat (-1) = S.ldX len := by
    have := P.2.2.2.1
    show ((((S.ldX len).thr, (S.ldX len).now, (S.ldX len).und), ((S.ldX len).byt, (-1 : Int)), _), _) = S.ldX len
    rw [← this]
    rfl
  rw [eT] at q0
  unfold ldZ
  rw [if_pos t]
  generalize hX : rdSetup v F R1 = X at *
  generalize hTT : S.ldX len = T at *
  obtain ⟨⟨g1, g2, g3⟩, ⟨g4, g5, g6⟩, g7, g8⟩ := g
  have h6 := i.2.1.1
  have hn9 : T.now < 9 := q0.2.1.1
  have rw' : rwF (nbF T.red) X.2.G := by
    have lo : ∀ j, j < 49 → nbF T.red j = T.red j := fun j hj => by
      unfold nbF
      rw [if_neg (by omega)]
    refine ⟨by rw [lo 0 (by omega)]; exact g4.symm, by rw [lo 1 (by omega)]; exact g5.symm, by rw [lo 2 (by omega)]; exact g6.symm, fun j hj => ?_, fun j hj => ?_⟩
    · have := g2.1.2.1
      rw [lo _ (by omega), lo _ (by omega), lo _ (by omega)]
      obtain ⟨r1, r2, r3⟩ := g7 j hj
      exact ⟨r1.symm, r2.symm, r3.symm⟩
    · unfold nbF
      rw [if_pos (by omega), show 49 + j - 49 = j by omega, ← g4, g3.2 j hj]
      refine congrArg (fun z : (Nat → Nat) × Nat => z.1 j) (nmG_cg (fun a b ha hb => ?_))
      exact (g8 a b (by omega) hb).symm
  have cu : Cu v h1 top1 x X.2.G S' ((T.now + 1) % 9) := by
    obtain ⟨c1, c2, c3, c4, c5⟩ := c
    have hn' : S'.now < 9 := by rw [c2]; exact Nat.mod_lt _ (by omega)
    rw [← c2]
    refine ⟨⟨g3, by omega⟩, cdN X.2, cdC X.2, ⟨⟨hn', rw'.cong g2.1 (fun a ha => c4 a ha)⟩, g2, ld_cdA i hc cd co (fun a ha hh => ?_)⟩, ?_, ?_⟩
    · exact (c4 a ha).trans (nbF_hi h6 hh)
    · rcases hF with z | ⟨z, zz, hp1⟩
      · have en : cdN X.2 = 1 := if_pos z
        have ec : ∀ a, cdC X.2 a = 1 := fun a => if_pos z
        refine ⟨Or.inl ⟨fi.1 z, en, ec 0⟩, Or.inl (by rw [fi.1 z]; exact hA), by omega, fun a _ => by rw [ec]; omega⟩
      · have en : cdN X.2 = X.2.cl := if_neg (by omega)
        have eF := fi.2 z
        have cl6 := hR.1.2.2.2.2.2.1
        refine ⟨Or.inr (by rw [eF, en]; exact hp1), Or.inr (by rw [eF]; omega), by rw [en]; exact cl6, fun a ha => ?_⟩
        unfold cdC
        rw [if_neg (by omega)]
        split
        · exact hR.2.2.2.1 a
        · omega
    · rcases hF with z | ⟨z, zz, hp1⟩
      · rw [fi.1 z]
        exact Or.inl hA
      · rw [fi.2 z]
        exact Or.inr zz
  exact q0.chg c (cu.eq (cop_eqG _ _))
end

