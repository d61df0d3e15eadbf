/-! ===== gains, means, over the component's state ===== -/
theorem Cal.mono {v : Ev} {M : Md} {d mc ms : Nat} {av : List Value} {h : Hp} {top : Nat} {Qr Qr' : Option Value → Hp → Nat → Prop} {Qx : String → Hp → Nat → Prop} (hC : Cal v M d mc ms av h top Qr Qx) (hq : ∀ r h' top', Qr r h' top' → Qr' r h' top') : Cal v M d mc ms av h top Qr' Qx := by
  intro l hl p e h1 h2 h3 s m args below hf hs hP hK
  obtain ⟨n, o, a1, a2, a3, a4⟩ := hC l hl p e h1 h2 h3 s m args below hf hs hP hK
  refine ⟨n, o, a1, a2, a3, ?_⟩
  rcases a4 with ⟨⟨⟨r, h', top', g1, g2, g3⟩, gF⟩, L⟩ | g
  · exact Or.inl ⟨⟨⟨r, h', top', g1, hq _ _ _ g2, g3⟩, gF⟩, L⟩
  · exact Or.inr g
def stG (W : Nat → Nat) (n : Nat) : Nat → Int := fun k => (degN W k n : Nat)
def csS (W T : Nat → Nat) (k : Nat) : Nat → Int
  | 0 => 0
  | u + 1 => csS W T k u + (W (k * 6 + u) : Nat) * (T (k * 6 + u) : Nat)
def csG (W T : Nat → Nat) (n : Nat) : Nat → Int := fun k => csS W T k n
def tbl (G : GT) (cn : Nat) (cc : Nat → Int) : Nat → Nat := tbS G.W cc cn G.L G.H (fun _ => 0) G.e
theorem tbS_ind (W : Nat → Nat) (c : Nat → Int) (n : Nat) (L H T T2 : Nat → Nat) : ∀ e k, k < 36 → tbS W c n L H T e k = tbS W c n L H T2 e k
  | 0, k, hk => by
    show filF T 36 0 k = filF T2 36 0 k
    unfold filF
    rw [if_pos hk, if_pos hk]
  | e + 1, k, hk => by
    rw [tbS, tbS]
    unfold upN
    split
    · rfl
    · split
      · rfl
      · exact tbS_ind W c n L H T T2 e k hk
theorem aug_cong {W : Nat → Nat} {n S w : Nat} {g g2 : Nat → Int} (hw : w < n) (h : ∀ k, k < n → g k = g2 k) : aug W n g (unkL S w n) = aug W n g2 (unkL S w n) := by
  funext i j
  unfold aug
  split
  · exact h _ (unkL_lt hw i)
  · rfl
section
variable {v : Ev} {h : Hp} {top x : Nat} {Z : CS}
theorem c_meanX {i j f : Nat} {g g0 : Nat → Int} (K : okX v h x Z) (okg : okG Z.2.1) (hi : i < Z.2.1.n) (hj : j < Z.2.1.n) (hN : h (x + 89) = some (aJ v 6 (lF g))) (hgn : ∀ k, k < Z.2.1.n → g k = g0 k) (ok : i ≠ j → okA (muM Z.2.1.W Z.2.1.n i j g0) (muK Z.2.1.W Z.2.1.n i j)) (hf : f = x + 87 ∨ f = x + 88) :
    Cal v mX1_meanUntil 5 0 0 [.ref (x + 83), .ref (x + 1), .int (nI i), .int (nI j), .ref (x + 89), .ref f] h top (fun r h' top' => r = none ∧ top = top' ∧ okX v h' x Z ∧ h' f = some (frE (muA Z.2.1.W Z.2.1.n i j g0) (muB Z.2.1.W Z.2.1.n i j g0)) ∧ ∀ a, (a < x + 83 ∨ x + 87 ≤ a) → a ≠ f → h' a = h a) noX := by
  have K' := K
  obtain ⟨⟨-, hg, -, -⟩, ⟨-, -, ⟨C, U, k, hE⟩, hA, hW⟩, -⟩ := K'
  obtain ⟨a, b, hfr⟩ : ∃ a b, h f = some (frE a b) := by
    rcases hf with rfl | rfl
    · exact hA
    · exact hW
  have eM : muM Z.2.1.W Z.2.1.n i j g = muM Z.2.1.W Z.2.1.n i j g0 := aug_cong hi hgn
  have eA : muA Z.2.1.W Z.2.1.n i j g = muA Z.2.1.W Z.2.1.n i j g0 := by unfold muA; rw [eM]
  have eB : muB Z.2.1.W Z.2.1.n i j g = muB Z.2.1.W Z.2.1.n i j g0 := by unfold muB; rw [eM]
  have cm := c_mean (v := v) (h := h) (top := top) (q := x + 83) (g := x + 1) (ga := x + 89) (f := f) (x := i) (y := j) (k := k) (C := C) (U := U) (Gn := g) hg (by omega) (fun C U k => (eH_out (by omega)).trans hN) hfr (by omega) okg.1 hi hj (fun k hk => by have := okg.2.2.2.2 k hk; omega) (by rw [eM]; exact ok)
  rw [hE.self, eA, eB] at cm
  refine cm.mono (fun r h' top' => ?_)
  rintro ⟨rfl, rfl, C', U', k', rfl⟩
  have K2 : okX v (hp h f (frE (muA Z.2.1.W Z.2.1.n i j g0) (muB Z.2.1.W Z.2.1.n i j g0))) x Z := by
    rcases hf with rfl | rfl
    · exact K.uA ⟨_, _, hp_eq _ _ _⟩ (fun a ha => hp_ne _ _ (by omega))
    · exact K.uW ⟨_, _, hp_eq _ _ _⟩ (fun a ha => hp_ne _ _ (by omega))
  refine ⟨rfl, rfl, K2.uE ⟨_, _, _, eH_is⟩ (fun a ha => eH_out ha), ?_, fun a ha hne => ?_⟩
  · rw [eH_out (by omega), hp_eq]
  · rw [eH_out (by omega), hp_ne _ _ hne]
theorem c_gainS (K : okX v h x Z) (okg : okG Z.2.1) : Cal v mX10_gainSteps 3 0 0 [.ref x] h top (fun r h' top' => r = none ∧ top = top' ∧ okX v h' x Z ∧ (∃ g, h' (x + 89) = some (aJ v 6 (lF g)) ∧ ∀ k, k < Z.2.1.n → g k = stG Z.2.1.W Z.2.1.n k) ∧ ∀ a, a ≠ x + 89 → h' a = h a) noX := by
  have K' := K
  obtain ⟨⟨hx, hg, -, -⟩, -, ⟨g, hN⟩, -⟩ := K'
  have gx : ∀ e, hp h (x + 89) e x = some (xE x Z.1.1) := fun e => (hp_ne _ _ (by omega)).trans hx
  have gG : ∀ e, isG v (hp h (x + 89) e) (x + 1) Z.2.1 := fun e => hg.put (by omega)
  refine Cal.ofJ (by decide +kernel) rfl (Nat.le_of_ble_eq_true rfl) fun hz0 => ?_
  refine r_ls [some (.ref x), none] rfl ?_
  generalize hPo : (fun (r : Option Value) (h' : Hp) (top' : Nat) => r = none ∧ top = top' ∧ okX v h' x Z ∧ (∃ g, h' (x + 89) = some (aJ v 6 (lF g)) ∧ ∀ k, k < Z.2.1.n → g k = stG Z.2.1.W Z.2.1.n k) ∧ ∀ a, a ≠ x + 89 → h' a = h a) = Po
  refine r_iconst (pc := 0) (w := nI 0) (tX10_gainSteps.at 0 rfl) (by decide) ?_
  refine r_istore_n (pc := 1) (i := 1) (tX10_gainSteps.at 1 rfl) rfl (by decide) ?_
  refine r_eq (h2 := hp h (x + 89) (aJ v 6 (lF g))) (hp_id hN).symm rfl ?_
  have key : ∀ m u (g : Nat → Int), u + m = Z.2.1.n → (∀ k, k < u → g k = stG Z.2.1.W Z.2.1.n k) → J v mX10_gainSteps (rmOf 3 0 0) (KM v Po noX 0 0) top 0 0 (hp h (x + 89) (aJ v 6 (lF g))) top 2 [some (.ref x), some (.int (nI u))] [] := by
    intro m
    induction m with
    | zero =>
      intro u g hu hgk
      have hu : u = Z.2.1.n := by omega
      subst hu
      have h6 := okg.1
      refine r_iload_n (pc := 2) (i := 1) (tX10_gainSteps.at 2 rfl) rfl rfl ?_
      refine r_aload_n (pc := 3) (i := 0) (tX10_gainSteps.at 3 rfl) rfl rfl ?_
      refine r_get (pc := 4) (tX10_gainSteps.at 4 rfl) gf_X10_16 (gx _) rfl ?_
      refine r_get (pc := 7) (tX10_gainSteps.at 5 rfl) gf_X10_127 ((gG _).1) rfl ?_
      refine r_icmp_geN (pc := 10) 34 (tX10_gainSteps.at 6 rfl) (by decide) (by omega) (by omega) (fun _ => ?_) (fun c => by omega)
      refine r_vret (pc := 34) (tX10_gainSteps.at 18 rfl) rfl (Nat.le_of_ble_eq_true rfl) (Nat.le_of_ble_eq_true rfl) ?_
      subst hPo
      exact ⟨rfl, rfl, K.uN ⟨_, hp_eq _ _ _⟩ (fun a ha => hp_ne _ _ (by omega)), ⟨g, hp_eq _ _ _, hgk⟩, fun a ha => hp_ne _ _ ha⟩
    | succ m ih =>
      intro u g hu hgk
      have h6 := okg.1
      have hdg := degN_le (x := u) okg.1 (by omega) okg.2.2.2.2
      refine r_iload_n (pc := 2) (i := 1) (tX10_gainSteps.at 2 rfl) rfl rfl ?_
      refine r_aload_n (pc := 3) (i := 0) (tX10_gainSteps.at 3 rfl) rfl rfl ?_
      refine r_get (pc := 4) (tX10_gainSteps.at 4 rfl) gf_X10_16 (gx _) rfl ?_
      refine r_get (pc := 7) (tX10_gainSteps.at 5 rfl) gf_X10_127 ((gG _).1) rfl ?_
      refine r_icmp_geN (pc := 10) 34 (tX10_gainSteps.at 6 rfl) (by decide) (by omega) (by omega) (fun c => by omega) (fun _ => ?_)
      refine r_aload_n (pc := 13) (i := 0) (tX10_gainSteps.at 7 rfl) rfl rfl ?_
      refine r_get (pc := 14) (tX10_gainSteps.at 8 rfl) gf_X10_65 (gx _) rfl ?_
      refine r_iload_n (pc := 17) (i := 1) (tX10_gainSteps.at 9 rfl) rfl rfl ?_
      refine r_aload_n (pc := 18) (i := 0) (tX10_gainSteps.at 10 rfl) rfl rfl ?_
      refine r_get (pc := 19) (tX10_gainSteps.at 11 rfl) gf_X10_16 (gx _) rfl ?_
      refine r_iload_n (pc := 22) (i := 1) (tX10_gainSteps.at 12 rfl) rfl rfl ?_
      refine r_callV (M' := mX3_sumOfWeights) (pc := 23) (tX10_gainSteps.at 13 rfl) ml_X10_153 rfl mw_X3_sumOfWeights ⟨by decide, by decide⟩ ((gG _).1) rfl rfl (c_sow (gG _) okg.1 (by omega)) rfl rfl (Nat.le_of_ble_eq_true rfl) (Nat.le_of_ble_eq_true rfl) (Nat.le_of_ble_eq_true rfl) ?_
      rintro _ _ _ ⟨rfl, rfl, rfl⟩
      first | refine r_i2lN (pc := 26) (tX10_gainSteps.at 14 rfl) (by omega) ?_ | refine r_i2lZ (pc := 26) (tX10_gainSteps.at 14 rfl) ⟨by omega, by omega⟩ ?_ | refine r_i2l (pc := 26) (tX10_gainSteps.at 14 rfl) ?_
      refine r_last (pc := 27) (tX10_gainSteps.at 15 rfl) (hp_eq _ _ _) (u) (rfl) (by omega) (Nat.le_of_ble_eq_true rfl) ?_
      rw [upd_lF, hp_hp]
      first | refine r_iincN (pc := 28) (tX10_gainSteps.at 16 rfl) rfl (by decide) ?_ | refine r_iinc (pc := 28) (tX10_gainSteps.at 16 rfl) rfl rfl (by decide) ?_
      refine r_goto (pc := 31) 2 (tX10_gainSteps.at 17 rfl) (by decide) ?_
      refine ih (u + 1) _ (by omega) (fun k hk => ?_)
      by_cases e : k = u
      · rw [e, upZ_eq]
        rfl
      · rw [upZ_ne _ _ e]
        exact hgk k (by omega)
  exact key Z.2.1.n 0 g (by omega) (fun k hk => by omega)
/-- the codes of a graph's cost, outside of the component's own cells -/
def okC (v : Ev) (h : Hp) (x : Nat) (G : GT) (cn : Nat) (cc : Nat → Int) : Prop := isCode v h G.F cn cc ∧ (G.F < x ∨ x + 96 ≤ G.F) ∧ cn ≤ 600 ∧ ∀ k, k < cn → -7 ≤ cc k ∧ cc k ≤ 10000
theorem okC.cd {G : GT} {cn : Nat} {cc : Nat → Int} (k : okC v h x G cn cc) : isCd v h G.F (x + 71) cn cc := ⟨k.1, by have := k.2.1; omega, by have := k.2.1; omega, by have := k.2.2.1; omega, fun i hi => by have := k.2.2.2 i hi; omega⟩
theorem okC.frame {h' : Hp} {G : GT} {cn : Nat} {cc : Nat → Int} (k : okC v h x G cn cc) (f : ∀ a, (a < x ∨ x + 96 ≤ a) → h a ≠ none → h' a = h a) : okC v h' x G cn cc := by
  refine ⟨?_, k.2⟩
  rcases k.1 with q | q
  · exact Or.inl q
  · exact Or.inr ((f _ k.2.1 (by rw [q]; simp)).trans q)
/-- ends of edges are vertices -/
def okL (G : GT) : Prop := ∀ i, i < G.e → G.L i < 6 ∧ G.H i < 6
theorem c_fillTX {cn : Nat} {cc : Nat → Int} (K : okX v h x Z) (okg : okG Z.2.1) (hl : okL Z.2.1) (hc : okC v h x Z.2.1 cn cc) : Cal v mX0_fillTable 5 0 0 [.ref (x + 71), .ref (x + 1)] h top (fun r h' top' => r = none ∧ top = top' ∧ okX v h' x Z ∧ (∃ T, h' (x + 71 + 2) = some (aI v 36 (iF T)) ∧ ∀ k, k < 36 → T k = tbl Z.2.1 cn cc k) ∧ ∀ a, a ≠ x + 72 → a ≠ x + 73 → h' a = h a) noX := by
  have K' := K
  obtain ⟨⟨-, hg, -, -⟩, ⟨⟨s, T, hC, hs, hT⟩, -⟩, -⟩ := K'
  have cf := c_fillT (v := v) (h := h) (top := top) (q := x + 71) (g := x + 1) hC hT hs hg (by omega) hc.cd (fun k hk => by have := okg.2.2.2.2 k hk; omega) okg.2.1 hl
  refine cf.mono (fun r h' top' => ?_)
  rintro ⟨rfl, rfl, s', hs', rfl⟩
  refine ⟨rfl, rfl, K.uC ⟨s', _, ⟨?_, ?_⟩, hs', hp_eq _ _ _⟩ (fun a ha => ?_), ⟨_, hp_eq _ _ _, fun k hk => tbS_ind _ _ _ _ _ _ _ _ k hk⟩, fun a h1 h2 => ?_⟩
  · rw [hp_ne _ _ (by omega), hp_ne _ _ (by omega)]
    exact hC.1
  · rw [hp_ne _ _ (by omega), hp_eq]
  · rw [hp_ne _ _ (by omega), hp_ne _ _ (by omega)]
  · rw [hp_ne _ _ (by omega), hp_ne _ _ (by omega)]
theorem csS_cong {W T T2 : Nat → Nat} {k : Nat} (hk : k < 6) (hT : ∀ j, j < 36 → T j = T2 j) : ∀ u, u ≤ 6 → csS W T k u = csS W T2 k u
  | 0, _ => rfl
  | u + 1, hu => by rw [csS, csS, csS_cong hk hT u (by omega), hT _ (by omega)]
end

