/-! ===== each change: the row and the graph ===== -/
theorem rfn_same : ∀ r (G : GT), (GT.rfn r G).n = G.n ∧ (GT.rfn r G).e = G.e ∧ (GT.rfn r G).a = G.a ∧ (GT.rfn r G).L = G.L ∧ (GT.rfn r G).H = G.H ∧ (GT.rfn r G).W = G.W ∧ (GT.rfn r G).F = G.F
  | 0, G => ⟨rfl, rfl, rfl, rfl, rfl, rfl, rfl⟩
  | r + 1, G => by
    rw [GT.rfn]
    split
    · exact rfn_same r G.dvd
    · exact ⟨rfl, rfl, rfl, rfl, rfl, rfl, rfl⟩
theorem rfn_ok : ∀ r (G : GT), okG G → canB G → okG (GT.rfn r G) ∧ canB (GT.rfn r G)
  | 0, G, h, c => ⟨h, c⟩
  | r + 1, G, h, c => by
    rw [GT.rfn]
    split
    · exact rfn_ok r G.dvd (dvd_ok h) dvd_can
    · exact ⟨h, c⟩
section
variable {G : GT} {f : Nat → Nat}
theorem rwF_setW {i w : Nat} (k : rwF f G) (wf : wfG G) (hi : i < G.e) : rwF (upN f (4 + 3 * i + 2) w) (G.sW (pWt G.W (G.L i) (G.H i) w)) := by
  obtain ⟨k1, k2, k3, k4, k5⟩ := k
  obtain ⟨⟨o1, o2, -⟩, e1, e2, -⟩ := wf
  obtain ⟨i1, i2, -⟩ := e1 i hi
  refine ⟨(upN_ne _ _ (by omega)).trans k1, (upN_ne _ _ (by omega)).trans k2, (upN_ne _ _ (by omega)).trans k3, fun j hj => ?_, fun j hj => ?_⟩
  · have hj' : j < G.e := hj
    obtain ⟨q1, q2, q3⟩ := k4 j hj'
    obtain ⟨j1, j2, -⟩ := e1 j hj'
    refine ⟨(upN_ne _ _ (by omega)).trans q1, (upN_ne _ _ (by omega)).trans q2, ?_⟩
    show upN f (4 + 3 * i + 2) w (4 + 3 * j + 2) = pWt G.W (G.L i) (G.H i) w (G.L j * 6 + G.H j)
    rw [pWt_at (by omega) (by omega) (by omega) (by omega)]
    by_cases c : j = i
    · rw [c, upN_eq, if_pos (Or.inl ⟨rfl, rfl⟩)]
    · rw [upN_ne _ _ (by omega), q3, if_neg]
      rintro (⟨z1, z2⟩ | ⟨z1, z2⟩)
      · exact c (e2 j i hj' hi z1 z2)
      · omega
  · have hj' : j < G.n := hj
    rw [upN_ne _ _ (by omega)]
    exact k5 j hj'
theorem rwF_addE {a b w : Nat} (k : rwF f G) (wf : wfG G) (ha : a < G.n) (hb : b < G.n) (hne : a ≠ b) (h0 : G.W (a * 6 + b) = 0) : rwF (upN (upN (upN (upN f (4 + 3 * G.e) (min a b)) (4 + 3 * G.e + 1) (max a b)) (4 + 3 * G.e + 2) w) 1 (G.e + 1)) (G.addE a b w) := by
  have no := wf.no ha hb h0
  have room := wf_room wf ha hb hne h0
  obtain ⟨k1, k2, k3, k4, k5⟩ := k
  obtain ⟨⟨o1, o2, -⟩, e1, e2, -⟩ := wf
  have up : ∀ j, j ≠ 1 → j ≠ 4 + 3 * G.e → j ≠ 4 + 3 * G.e + 1 → j ≠ 4 + 3 * G.e + 2 → upN (upN (upN (upN f (4 + 3 * G.e) (min a b)) (4 + 3 * G.e + 1) (max a b)) (4 + 3 * G.e + 2) w) 1 (G.e + 1) j = f j := fun j h1 h2 h3 h4 => by
    rw [upN_ne _ _ h1, upN_ne _ _ h4, upN_ne _ _ h3, upN_ne _ _ h2]
  refine ⟨(up 0 (by omega) (by omega) (by omega) (by omega)).trans k1, upN_eq _ _ _, (up 2 (by omega) (by omega) (by omega) (by omega)).trans k3, fun j hj => ?_, fun j hj => ?_⟩
  · have hj' : j < G.e + 1 := hj
    have eL : (G.addE a b w).L j = if j = G.e then min a b else G.L j := rfl
    have eH : (G.addE a b w).H j = if j = G.e then max a b else G.H j := rfl
    rw [eL, eH]
    by_cases c : j = G.e
    · rw [if_pos c, if_pos c, c]
      have eW : (G.addE a b w).W (min a b * 6 + max a b) = w := (pWt_at (by omega) (by omega) (by omega) (by omega)).trans (if_pos (by omega))
      rw [eW]
      refine ⟨?_, ?_, ?_⟩
      · rw [upN_ne _ _ (by omega), upN_ne _ _ (by omega), upN_ne _ _ (by omega), upN_eq]
      · rw [upN_ne _ _ (by omega), upN_ne _ _ (by omega), upN_eq]
      · rw [upN_ne _ _ (by omega), upN_eq]
    · rw [if_neg c, if_neg c]
      obtain ⟨q1, q2, q3⟩ := k4 j (by omega)
      obtain ⟨j1, j2, -⟩ := e1 j (by omega)
      have nk := no j (by omega)
      have eW : (G.addE a b w).W (G.L j * 6 + G.H j) = G.W (G.L j * 6 + G.H j) := (pWt_at (by omega) (by omega) (by omega) (by omega)).trans (if_neg (by omega))
      rw [eW, up _ (by omega) (by omega) (by omega) (by omega), up _ (by omega) (by omega) (by omega) (by omega), up _ (by omega) (by omega) (by omega) (by omega)]
      exact ⟨q1, q2, q3⟩
  · have hj' : j < G.n := hj
    rw [up _ (by omega) (by omega) (by omega) (by omega)]
    exact k5 j hj'
theorem rwF_rmE {i : Nat} (k : rwF f G) (wf : wfG G) (hi : i < G.e) : rwF (upN (shF f (4 + 3 * i) (4 + 3 * (G.e - 1))) 1 (G.e - 1)) (G.rmE i) := by
  obtain ⟨k1, k2, k3, k4, k5⟩ := k
  obtain ⟨⟨o1, o2, -⟩, e1, e2, -⟩ := wf
  obtain ⟨i1, i2, -⟩ := e1 i hi
  have up : ∀ j, j ≠ 1 → (j < 4 + 3 * i ∨ 4 + 3 * (G.e - 1) ≤ j) → upN (shF f (4 + 3 * i) (4 + 3 * (G.e - 1))) 1 (G.e - 1) j = f j := fun j h1 h2 => by
    rw [upN_ne _ _ h1]
    unfold shF
    rw [if_neg (by omega)]
  have dn : ∀ j, 4 + 3 * i ≤ j → j < 4 + 3 * (G.e - 1) → upN (shF f (4 + 3 * i) (4 + 3 * (G.e - 1))) 1 (G.e - 1) j = f (j + 3) := fun j h1 h2 => by
    rw [upN_ne _ _ (by omega)]
    unfold shF
    rw [if_pos ⟨h1, h2⟩]
  refine ⟨(up 0 (by omega) (by omega)).trans k1, upN_eq _ _ _, (up 2 (by omega) (by omega)).trans k3, fun j hj => ?_, fun j hj => ?_⟩
  · have hj' : j < G.e - 1 := hj
    have eW : ∀ q, q < G.e → q ≠ i → (G.rmE i).W (G.L q * 6 + G.H q) = G.W (G.L q * 6 + G.H q) := fun q hq hne => by
      obtain ⟨j1, j2, -⟩ := e1 q hq
      refine (pWt_at (by omega) (by omega) (by omega) (by omega)).trans (if_neg ?_)
      rintro (⟨z1, z2⟩ | ⟨z1, z2⟩)
      · exact hne (e2 q i hq hi z1 z2)
      · omega
    by_cases c : i ≤ j
    · have eL : (G.rmE i).L j = G.L (j + 1) := if_pos ⟨c, hj'⟩
      have eH : (G.rmE i).H j = G.H (j + 1) := if_pos ⟨c, hj'⟩
      rw [eL, eH, eW (j + 1) (by omega) (by omega), dn _ (by omega) (by omega), dn _ (by omega) (by omega), dn _ (by omega) (by omega)]
      have q := k4 (j + 1) (by omega)
      rw [show 4 + 3 * j + 3 = 4 + 3 * (j + 1) by omega, show 4 + 3 * j + 1 + 3 = 4 + 3 * (j + 1) + 1 by omega, show 4 + 3 * j + 2 + 3 = 4 + 3 * (j + 1) + 2 by omega]
      exact q
    · have eL : (G.rmE i).L j = G.L j := if_neg (fun z => c z.1)
      have eH : (G.rmE i).H j = G.H j := if_neg (fun z => c z.1)
      rw [eL, eH, eW j (by omega) (by omega), up _ (by omega) (by omega), up _ (by omega) (by omega), up _ (by omega) (by omega)]
      exact k4 j (by omega)
  · have hj' : j < G.n := hj
    rw [up _ (by omega) (by omega)]
    exact k5 j hj'
theorem rwF_abs {a : Nat} (k : rwF f G) (ok : okG G) : rwF (upN f 2 a) (G.sc G.n G.e a G.b) := by
  obtain ⟨k1, k2, k3, k4, k5⟩ := k
  refine ⟨(upN_ne _ _ (by omega)).trans k1, (upN_ne _ _ (by omega)).trans k2, upN_eq _ _ _, fun j hj => ?_, fun j hj => ?_⟩
  · rw [upN_ne _ _ (by omega), upN_ne _ _ (by omega), upN_ne _ _ (by omega)]
    exact k4 j hj
  · rw [upN_ne _ _ (by omega)]
    exact k5 j hj
/-- labels numbered anew -/
theorem rwF_num {g B : Nat → Nat} (k : rwF f G) (ok : okG G) (hg : ∀ j, j < 49 → g j = f j) (hB : ∀ j, j < G.n → g (49 + j) = B j) : rwF (nbF g) ((G.sB B).num) := by
  obtain ⟨k1, k2, k3, k4, k5⟩ := k
  obtain ⟨o1, o2, -⟩ := ok
  have lo : ∀ j, j < 49 → nbF g j = f j := fun j hj => by
    unfold nbF
    rw [if_neg (by omega)]
    exact hg j hj
  have g0 : g 0 = G.n := (hg 0 (by omega)).trans k1
  refine ⟨(lo 0 (by omega)).trans k1, (lo 1 (by omega)).trans k2, (lo 2 (by omega)).trans k3, fun j hj => ?_, fun j hj => ?_⟩
  · have hj' : j < G.e := hj
    rw [lo _ (by omega), lo _ (by omega), lo _ (by omega)]
    exact k4 j hj'
  · have hj' : j < G.n := hj
    have e1 : ((G.sB B).num).B j = (numL B G.n).1 j := rfl
    rw [e1, (numL_nm G.n).2 j hj']
    unfold nbF
    rw [g0, if_pos (by omega), show 49 + j - 49 = j by omega, nmG_cong (B := fun j => g (49 + j)) (B2 := B) hB]
theorem rwF_join {i j : Nat} (k : rwF f G) (ok : okG G) (hi : i < G.n) (hj : j < G.n) : rwF (nbF (jnF f i j G.n)) (G.unite i j) := by
  refine rwF_num k ok (fun q hq => ?_) (fun q hq => ?_)
  · unfold jnF
    rw [if_neg (by omega)]
  · unfold jnF unB
    rw [k.2.2.2.2 q hq, k.2.2.2.2 i hi, k.2.2.2.2 j hj]
    by_cases c : G.B q = G.B j
    · rw [if_pos ⟨by omega, c⟩, if_pos ⟨hq, c⟩]
    · rw [if_neg (fun z => c z.2), if_neg (fun z => c z.2)]
theorem rwF_sepa {i : Nat} (k : rwF f G) (ok : okG G) (hi : i < G.n) : rwF (nbF (upN f (49 + i) 6)) (G.isol i) := by
  refine rwF_num k ok (fun q hq => upN_ne _ _ (by omega)) (fun q hq => ?_)
  unfold upN
  by_cases c : q = i
  · rw [if_pos (by omega), if_pos c]
  · rw [if_neg (by omega), if_neg c]
    exact k.2.2.2.2 q hq
theorem rwF_rfn (k : rwF f G) (ok : okG G) : rwF (lbF f G.n (GT.rfn 6 G).B) (GT.rfn 6 G) := by
  obtain ⟨k1, k2, k3, k4, k5⟩ := k
  obtain ⟨o1, o2, -⟩ := ok
  obtain ⟨e1, e2, e3, e4, e5, e6, e7⟩ := rfn_same 6 G
  have lo : ∀ j, j < 49 → lbF f G.n (GT.rfn 6 G).B j = f j := fun j hj => by
    unfold lbF
    rw [if_neg (by omega)]
  refine ⟨by rw [lo 0 (by omega), e1]; exact k1, by rw [lo 1 (by omega), e2]; exact k2, by rw [lo 2 (by omega), e3]; exact k3, fun j hj => ?_, fun j hj => ?_⟩
  · rw [e2] at hj
    rw [lo _ (by omega), lo _ (by omega), lo _ (by omega), e4, e5, e6]
    exact k4 j hj
  · rw [e1] at hj
    unfold lbF
    rw [if_pos (by omega), show 49 + j - 49 = j by omega]
end
/-- codes left alone -/
theorem nbF_hi {g : Nat → Nat} {k : Nat} (h6 : g 0 ≤ 6) (hk : k = 3 ∨ 56 ≤ k) : nbF g k = g k := by
  unfold nbF
  rw [if_neg (by omega)]
section
variable {v : Ev} {h : Hp} {top x : Nat} {Z : CS} {S S' : MS}
theorem ch_setW {i w : Nat} (k : Rel v h top x Z S) (hi : i < Z.2.1.e) (hw : 1 ≤ w ∧ w ≤ 9) (c : chd S S' (upN S.rw (4 + 3 * i + 2) w)) : Rel v h top x (Z.keep.sG (Z.2.1.sW (pWt Z.2.1.W (Z.2.1.L i) (Z.2.1.H i) w))) S' := by
  have q := k.2.2.1
  obtain ⟨c1, cn, cc, c2, -⟩ := id q
  have e15 := c2.2.1.1.2.1
  exact k.chg c (q.new k.2.1.1 c (fun j _ h2 => upN_ne _ _ (by omega)) (rwF_setW c2.1.2 c2.2.1 hi) (wf_setW c2.2.1 hi hw) c1 rfl)
theorem ch_addE {a b w : Nat} (k : Rel v h top x Z S) (ha : a < Z.2.1.n) (hb : b < Z.2.1.n) (hne : a ≠ b) (h0 : Z.2.1.W (a * 6 + b) = 0) (hw : 1 ≤ w ∧ w ≤ 9) (c : chd S S' (upN (upN (upN (upN S.rw (4 + 3 * Z.2.1.e) (min a b)) (4 + 3 * Z.2.1.e + 1) (max a b)) (4 + 3 * Z.2.1.e + 2) w) 1 (Z.2.1.e + 1))) : Rel v h top x (Z.keep.sG (Z.2.1.addE a b w)) S' := by
  have q := k.2.2.1
  obtain ⟨c1, cn, cc, c2, -⟩ := id q
  have room := wf_room c2.2.1 ha hb hne h0
  exact k.chg c (q.new k.2.1.1 c (fun j _ h2 => by rw [upN_ne _ _ (by omega), upN_ne _ _ (by omega), upN_ne _ _ (by omega), upN_ne _ _ (by omega)]) (rwF_addE c2.1.2 c2.2.1 ha hb hne h0) (wf_addE c2.2.1 ha hb hne h0 hw) c1 rfl)
theorem ch_rmE {i : Nat} (k : Rel v h top x Z S) (hi : i < Z.2.1.e) (c : chd S S' (upN (shF S.rw (4 + 3 * i) (4 + 3 * (Z.2.1.e - 1))) 1 (Z.2.1.e - 1))) : Rel v h top x (Z.keep.sG (Z.2.1.rmE i)) S' := by
  have q := k.2.2.1
  obtain ⟨c1, cn, cc, c2, -⟩ := id q
  have e15 := c2.2.1.1.2.1
  exact k.chg c (q.new k.2.1.1 c (fun j _ h2 => by
    rw [upN_ne _ _ (by omega)]
    unfold shF
    rw [if_neg (by omega)]) (rwF_rmE c2.1.2 c2.2.1 hi) (wf_rmE c2.2.1 hi) c1 rfl)
theorem ch_abs {a : Nat} (k : Rel v h top x Z S) (ha : a < 64) (c : chd S S' (upN S.rw 2 a)) : Rel v h top x (Z.keep.sG (Z.2.1.sc Z.2.1.n Z.2.1.e a Z.2.1.b)) S' := by
  have q := k.2.2.1
  obtain ⟨c1, cn, cc, c2, -⟩ := id q
  exact k.chg c (q.new k.2.1.1 c (fun j _ h2 => upN_ne _ _ (by omega)) (rwF_abs c2.1.2 c2.2.1.1) (wf_sc c2.2.1 ha) c1 rfl)
theorem ch_join {i j : Nat} (k : Rel v h top x Z S) (hi : i < Z.2.1.n) (hj : j < Z.2.1.n) (c : chd S S' (nbF (jnF S.rw i j Z.2.1.n))) : Rel v h top x (Z.keep.sG (Z.2.1.unite i j)) S' := by
  have q := k.2.2.1
  obtain ⟨c1, cn, cc, c2, -⟩ := id q
  have ok := c2.2.1.1
  have n6 := ok.1
  have f0 : S.rw 0 = Z.2.1.n := c2.1.2.1
  refine k.chg c (q.new k.2.1.1 c (fun u _ h2 => ?_) (rwF_join c2.1.2 ok hi hj) (wf_same c2.2.1 (ok.unite (by omega)) rfl rfl rfl rfl rfl) ⟨GT.num_can, c1.2⟩ rfl)
  rw [nbF_hi ?_ h2]
  · unfold jnF
    rw [if_neg (by omega)]
  · unfold jnF
    rw [if_neg (by omega)]
    omega
theorem ch_sepa {i : Nat} (k : Rel v h top x Z S) (hi : i < Z.2.1.n) (c : chd S S' (nbF (upN S.rw (49 + i) 6))) : Rel v h top x (Z.keep.sG (Z.2.1.isol i)) S' := by
  have q := k.2.2.1
  obtain ⟨c1, cn, cc, c2, -⟩ := id q
  have ok := c2.2.1.1
  have n6 := ok.1
  have f0 : S.rw 0 = Z.2.1.n := c2.1.2.1
  refine k.chg c (q.new k.2.1.1 c (fun u _ h2 => ?_) (rwF_sepa c2.1.2 ok hi) (wf_same c2.2.1 ok.isol rfl rfl rfl rfl rfl) ⟨GT.num_can, c1.2⟩ rfl)
  rw [nbF_hi ?_ h2]
  · exact upN_ne _ _ (by omega)
  · rw [upN_ne _ _ (by omega)]
    omega
theorem ch_rfn (k : Rel v h top x Z S) (c : chd S S' (lbF S.rw Z.2.1.n (GT.rfn 6 Z.2.1).B)) : Rel v h top x (Z.keep.sG (GT.rfn 6 Z.2.1)) S' := by
  have q := k.2.2.1
  obtain ⟨c1, cn, cc, c2, -⟩ := id q
  have ok := c2.2.1.1
  have n6 := ok.1
  obtain ⟨e1, e2, e3, e4, e5, e6, e7⟩ := rfn_same 6 Z.2.1
  obtain ⟨r1, r2⟩ := rfn_ok 6 Z.2.1 ok c1.1
  refine k.chg c (q.new k.2.1.1 c (fun u _ h2 => ?_) (rwF_rfn c2.1.2 ok) (wf_same c2.2.1 r1 e1 e2 e4 e5 e6) ⟨r2, by rw [e1]; exact c1.2⟩ e7)
  unfold lbF
  rw [if_neg (by omega)]
end

