/-! ===== means over the component's state ===== -/
theorem tbS_le (W : Nat → Nat) (c : Nat → Int) (n : Nat) (L H T : Nat → Nat) : ∀ e k, k < 36 → tbS W c n L H T e k ≤ 99
  | 0, k, hk => by
    show filF T 36 0 k ≤ 99
    unfold filF
    rw [if_pos hk]
    omega
  | e + 1, k, hk => by
    rw [tbS]
    unfold upN
    split
    · exact cst_le _ _ _ _ _
    · split
      · exact cst_le _ _ _ _ _
      · exact tbS_le W c n L H T e k hk
theorem tbl_le (G : GT) (cn : Nat) (cc : Nat → Int) : ∀ k, k < 36 → tbl G cn cc k ≤ 99 := tbS_le _ _ _ _ _ _ _
section
variable {v : Ev} {h : Hp} {top x : Nat} {Z : CS}
theorem c_gainCX {cn : Nat} {cc : Nat → Int} (K : okX v h x Z) (okg : okG Z.2.1) (hl : okL Z.2.1) (hc : okC v h x Z.2.1 cn cc) : Cal v mX10_gainCosts 6 0 0 [.ref x] h top (fun r h' top' => r = none ∧ top = top' ∧ okX v h' x Z ∧ (∃ g, h' (x + 89) = some (aJ v 6 (lF g)) ∧ ∀ k, k < Z.2.1.n → g k = csG Z.2.1.W (tbl Z.2.1 cn cc) Z.2.1.n k) ∧ ∀ a, a ≠ x + 72 → a ≠ x + 73 → a ≠ x + 89 → h' a = h a) noX := by
  have K' := K
  obtain ⟨⟨hx, hg, -, -⟩, ⟨⟨s, T0, hC, -, -⟩, -⟩, -⟩ := K'
  refine Cal.ofJ (by decide +kernel) rfl (Nat.le_of_ble_eq_true rfl) fun hz0 => ?_
  refine r_ls [some (.ref x), none, none, none, none] rfl ?_
  generalize hPo : (fun (r : Option Value) (h' : Hp) (top' : Nat) => r = none ∧ top = top' ∧ okX v h' x Z ∧ (∃ g, h' (x + 89) = some (aJ v 6 (lF g)) ∧ ∀ k, k < Z.2.1.n → g k = csG Z.2.1.W (tbl Z.2.1 cn cc) Z.2.1.n k) ∧ ∀ a, a ≠ x + 72 → a ≠ x + 73 → a ≠ x + 89 → h' a = h a) = Po
  refine r_aload_n (pc := 0) (i := 0) (tX10_gainCosts.at 0 rfl) rfl rfl ?_
  refine r_get (pc := 1) (tX10_gainCosts.at 1 rfl) gf_X10_37 (hx) rfl ?_
  refine r_aload_n (pc := 4) (i := 0) (tX10_gainCosts.at 2 rfl) rfl rfl ?_
  refine r_get (pc := 5) (tX10_gainCosts.at 3 rfl) gf_X10_16 (hx) rfl ?_
  refine r_callV (M' := mX0_fillTable) (pc := 8) (tX10_gainCosts.at 4 rfl) ml_X10_268 rfl mw_X0_fillTable ⟨by decide, by decide⟩ (hC.1) rfl rfl ((c_fillTX K okg hl hc)) rfl rfl (Nat.le_of_ble_eq_true rfl) (Nat.le_of_ble_eq_true rfl) (Nat.le_of_ble_eq_true rfl) ?_
  rintro _ H1 _ ⟨rfl, rfl, K1, ⟨T, hT, hTt⟩, f1⟩
  have K1' := K1
  obtain ⟨⟨hx1, hg1, -, -⟩, ⟨⟨s1, T1, hC1, -, -⟩, -⟩, ⟨g, hN⟩, -⟩ := K1'
  have gx : ∀ e, hp H1 (x + 89) e x = some (xE x Z.1.1) := fun e => (hp_ne _ _ (by omega)).trans hx1
  have gG : ∀ e, isG v (hp H1 (x + 89) e) (x + 1) Z.2.1 := fun e => hg1.put (by omega)
  have gC : ∀ e, hp H1 (x + 89) e (x + 71) = some (ob 0 [.ref (x + 71 + 1), .ref (x + 71 + 2)]) := fun e => (hp_ne _ _ (by omega)).trans hC1.1
  have gT : ∀ e, hp H1 (x + 89) e (x + 71 + 2) = some (aI v 36 (iF T)) := fun e => (hp_ne _ _ (by omega)).trans hT
  have h6 := okg.1
  refine r_eq (h2 := hp H1 (x + 89) (aJ v 6 (lF g))) (hp_id hN).symm rfl ?_
  refine r_iconst (pc := 11) (w := nI 0) (tX10_gainCosts.at 5 rfl) (by decide) ?_
  refine r_istore_n (pc := 12) (i := 1) (tX10_gainCosts.at 6 rfl) rfl (by decide) ?_
  have key : ∀ m u (g : Nat → Int) o2 o3 o4, u + m = Z.2.1.n → (∀ k, k < u → g k = csG Z.2.1.W (tbl Z.2.1 cn cc) Z.2.1.n k) → J v mX10_gainCosts (rmOf 6 0 0) (KM v Po noX 0 0) top 0 0 (hp H1 (x + 89) (aJ v 6 (lF g))) top 13 [some (.ref x), some (.int (nI u)), o2, o3, o4] [] := by
    intro m
    induction m with
    | zero =>
      intro u g o2 o3 o4 hu hgk
      have hu : u = Z.2.1.n := by omega
      subst hu
      refine r_iload_n (pc := 13) (i := 1) (tX10_gainCosts.at 7 rfl) rfl rfl ?_
      refine r_aload_n (pc := 14) (i := 0) (tX10_gainCosts.at 8 rfl) rfl rfl ?_
      refine r_get (pc := 15) (tX10_gainCosts.at 9 rfl) gf_X10_16 (gx _) rfl ?_
      refine r_get (pc := 18) (tX10_gainCosts.at 10 rfl) gf_X10_127 ((gG _).1) rfl ?_
      refine r_icmp_geN (pc := 21) 86 (tX10_gainCosts.at 11 rfl) (by decide) (by omega) (by omega) (fun _ => ?_) (fun c => by omega)
      refine r_vret (pc := 86) (tX10_gainCosts.at 46 rfl) rfl (Nat.le_of_ble_eq_true rfl) (Nat.le_of_ble_eq_true rfl) ?_
      subst hPo
      exact ⟨rfl, rfl, K1.uN ⟨_, hp_eq _ _ _⟩ (fun a ha => hp_ne _ _ (by omega)), ⟨g, hp_eq _ _ _, hgk⟩, fun a h1 h2 h3 => (hp_ne _ _ h3).trans (f1 a h1 h2)⟩
    | succ m ih =>
      intro u g o2 o3 o4 hu hgk
      refine r_iload_n (pc := 13) (i := 1) (tX10_gainCosts.at 7 rfl) rfl rfl ?_
      refine r_aload_n (pc := 14) (i := 0) (tX10_gainCosts.at 8 rfl) rfl rfl ?_
      refine r_get (pc := 15) (tX10_gainCosts.at 9 rfl) gf_X10_16 (gx _) rfl ?_
      refine r_get (pc := 18) (tX10_gainCosts.at 10 rfl) gf_X10_127 ((gG _).1) rfl ?_
      refine r_icmp_geN (pc := 21) 86 (tX10_gainCosts.at 11 rfl) (by decide) (by omega) (by omega) (fun c => by omega) (fun _ => ?_)
      refine r_lconst (pc := 24) (w := lI 0) (tX10_gainCosts.at 12 rfl) (by decide) ?_
      refine r_lstore_n (pc := 25) (i := 2) (tX10_gainCosts.at 13 rfl) rfl (by decide) ?_
      refine r_iconst (pc := 26) (w := nI 0) (tX10_gainCosts.at 14 rfl) (by decide) ?_
      refine r_istore (pc := 27) (i := 4) (tX10_gainCosts.at 15 rfl) (by decide) ?_
      have inner : ∀ m w, w + m = Z.2.1.n → J v mX10_gainCosts (rmOf 6 0 0) (KM v Po noX 0 0) top 0 0 (hp H1 (x + 89) (aJ v 6 (lF g))) top 29 [some (.ref x), some (.int (nI u)), some (.long (lI (csS Z.2.1.W (tbl Z.2.1 cn cc) u w))), none, some (.int (nI w))] [] := by
        intro m
        induction m with
        | zero =>
          intro w hw
          have hw : w = Z.2.1.n := by omega
          refine r_iload (pc := 29) (i := 4) (tX10_gainCosts.at 16 rfl) rfl ?_
          refine r_aload_n (pc := 31) (i := 0) (tX10_gainCosts.at 17 rfl) rfl rfl ?_
          refine r_get (pc := 32) (tX10_gainCosts.at 18 rfl) gf_X10_16 (gx _) rfl ?_
          refine r_get (pc := 35) (tX10_gainCosts.at 19 rfl) gf_X10_127 ((gG _).1) rfl ?_
          refine r_icmp_geN (pc := 38) 73 (tX10_gainCosts.at 20 rfl) (by decide) (by omega) (by omega) (fun _ => ?_) (fun c => by omega)
          refine r_aload_n (pc := 73) (i := 0) (tX10_gainCosts.at 39 rfl) rfl rfl ?_
          refine r_get (pc := 74) (tX10_gainCosts.at 40 rfl) gf_X10_65 (gx _) rfl ?_
          refine r_iload_n (pc := 77) (i := 1) (tX10_gainCosts.at 41 rfl) rfl rfl ?_
          refine r_lload_n (pc := 78) (i := 2) (tX10_gainCosts.at 42 rfl) rfl rfl ?_
          refine r_last (pc := 79) (tX10_gainCosts.at 43 rfl) (hp_eq _ _ _) (u) (rfl) (by omega) (Nat.le_of_ble_eq_true rfl) ?_
          rw [upd_lF, hp_hp]
          first | refine r_iincN (pc := 80) (tX10_gainCosts.at 44 rfl) rfl (by decide) ?_ | refine r_iinc (pc := 80) (tX10_gainCosts.at 44 rfl) rfl rfl (by decide) ?_
          refine r_goto (pc := 83) 13 (tX10_gainCosts.at 45 rfl) (by decide) ?_
          refine ih (u + 1) _ _ _ _ (by omega) (fun k hk => ?_)
          by_cases e : k = u
          · rw [e, upZ_eq, hw]
            rfl
          · rw [upZ_ne _ _ e]
            exact hgk k (by omega)
        | succ m ih2 =>
          intro w hw
          have hww := okg.2.2.2.2 (u * 6 + w) (by omega)
          have htt := tbl_le Z.2.1 cn cc (u * 6 + w) (by omega)
          refine r_iload (pc := 29) (i := 4) (tX10_gainCosts.at 16 rfl) rfl ?_
          refine r_aload_n (pc := 31) (i := 0) (tX10_gainCosts.at 17 rfl) rfl rfl ?_
          refine r_get (pc := 32) (tX10_gainCosts.at 18 rfl) gf_X10_16 (gx _) rfl ?_
          refine r_get (pc := 35) (tX10_gainCosts.at 19 rfl) gf_X10_127 ((gG _).1) rfl ?_
          refine r_icmp_geN (pc := 38) 73 (tX10_gainCosts.at 20 rfl) (by decide) (by omega) (by omega) (fun c => by omega) (fun _ => ?_)
          refine r_lload_n (pc := 41) (i := 2) (tX10_gainCosts.at 21 rfl) rfl rfl ?_
          refine r_aload_n (pc := 42) (i := 0) (tX10_gainCosts.at 22 rfl) rfl rfl ?_
          refine r_get (pc := 43) (tX10_gainCosts.at 23 rfl) gf_X10_16 (gx _) rfl ?_
          refine r_iload_n (pc := 46) (i := 1) (tX10_gainCosts.at 24 rfl) rfl rfl ?_
          refine r_iload (pc := 47) (i := 4) (tX10_gainCosts.at 25 rfl) rfl ?_
          refine r_callV (M' := mX3_weightBetween) (pc := 49) (tX10_gainCosts.at 26 rfl) ml_X10_142 rfl mw_X3_weightBetween ⟨by decide, by decide⟩ ((gG _).1) rfl rfl (c_wb (gG _) (a := u) (b := w) (by omega)) rfl rfl (Nat.le_of_ble_eq_true rfl) (Nat.le_of_ble_eq_true rfl) (Nat.le_of_ble_eq_true rfl) ?_
          rintro _ _ _ ⟨rfl, rfl, rfl⟩
          first | refine r_i2lN (pc := 52) (tX10_gainCosts.at 27 rfl) (by omega) ?_ | refine r_i2lZ (pc := 52) (tX10_gainCosts.at 27 rfl) ⟨by omega, by omega⟩ ?_ | refine r_i2l (pc := 52) (tX10_gainCosts.at 27 rfl) ?_
          refine r_aload_n (pc := 53) (i := 0) (tX10_gainCosts.at 28 rfl) rfl rfl ?_
          refine r_get (pc := 54) (tX10_gainCosts.at 29 rfl) gf_X10_37 (gx _) rfl ?_
          refine r_iload_n (pc := 57) (i := 1) (tX10_gainCosts.at 30 rfl) rfl rfl ?_
          refine r_iload (pc := 58) (i := 4) (tX10_gainCosts.at 31 rfl) rfl ?_
          refine r_callV (M' := mX0_tabled) (pc := 60) (tX10_gainCosts.at 32 rfl) ml_X10_326 rfl mw_X0_tabled ⟨by decide, by decide⟩ (gC _) rfl rfl (c_tabled (gC _) (gT _) (x := u) (y := w) (by omega) (by omega)) rfl rfl (Nat.le_of_ble_eq_true rfl) (Nat.le_of_ble_eq_true rfl) (Nat.le_of_ble_eq_true rfl) ?_
          rintro _ _ _ ⟨rfl, rfl, rfl⟩
          rw [hTt _ (show u * 6 + w < 36 by omega)]
          first | refine r_i2lN (pc := 63) (tX10_gainCosts.at 33 rfl) (by omega) ?_ | refine r_i2lZ (pc := 63) (tX10_gainCosts.at 33 rfl) ⟨by omega, by omega⟩ ?_ | refine r_i2l (pc := 63) (tX10_gainCosts.at 33 rfl) ?_
          first | refine r_lmulL (pc := 64) (tX10_gainCosts.at 34 rfl) ?_ | refine r_lmul (pc := 64) (tX10_gainCosts.at 34 rfl) ?_
          first | refine r_laddL (pc := 65) (tX10_gainCosts.at 35 rfl) ?_ | refine r_ladd (pc := 65) (tX10_gainCosts.at 35 rfl) ?_
          refine r_lstore_n (pc := 66) (i := 2) (tX10_gainCosts.at 36 rfl) rfl (by decide) ?_
          first | refine r_iincN (pc := 67) (tX10_gainCosts.at 37 rfl) rfl (by decide) ?_ | refine r_iinc (pc := 67) (tX10_gainCosts.at 37 rfl) rfl rfl (by decide) ?_
          refine r_goto (pc := 70) 29 (tX10_gainCosts.at 38 rfl) (by decide) ?_
          exact ih2 (w + 1) (by omega)
      exact inner Z.2.1.n 0 (by omega)
  exact key Z.2.1.n 0 g _ _ _ (by omega) (fun k hk => by omega)
/-- the trees -/
def trC (G : GT) : Int := if G.n < 2 then 0 else trV G.W G.n
theorem c_treesX (K : okX v h x Z) (okg : okG Z.2.1) (ok : 2 ≤ Z.2.1.n → okA (trM Z.2.1.W Z.2.1.n) (trK Z.2.1.n)) : Cal v mX10_countTrees 5 0 0 [.ref x] h top (fun r h' top' => r = some (.long (lI (trC Z.2.1))) ∧ top = top' ∧ okX v h' x Z ∧ ∀ a, (a < x + 83 ∨ x + 87 ≤ a) → h' a = h a) noX := by
  have K' := K
  obtain ⟨⟨hx, hg, -, -⟩, ⟨-, -, ⟨C, U, k, hE⟩, -⟩, -⟩ := K'
  have h6 := okg.1
  refine Cal.ofJ (by decide +kernel) rfl (Nat.le_of_ble_eq_true rfl) fun hz0 => ?_
  refine r_ls [some (.ref x)] rfl ?_
  refine r_aload_n (pc := 0) (i := 0) (tX10_countTrees.at 0 rfl) rfl rfl ?_
  refine r_get (pc := 1) (tX10_countTrees.at 1 rfl) gf_X10_16 (hx) rfl ?_
  refine r_get (pc := 4) (tX10_countTrees.at 2 rfl) gf_X10_127 (hg.1) rfl ?_
  refine r_iconst (pc := 7) (w := nI 2) (tX10_countTrees.at 3 rfl) (by decide) ?_
  by_cases c : Z.2.1.n < 2
  · rw [trC, if_pos c]
    refine r_icmp_geN (pc := 8) 13 (tX10_countTrees.at 4 rfl) (by decide) (by omega) (by omega) (fun z => by omega) (fun _ => ?_)
    refine r_lconst (pc := 11) (w := lI 0) (tX10_countTrees.at 5 rfl) (by decide) ?_
    refine r_lret (pc := 12) (tX10_countTrees.at 6 rfl) rfl (Nat.le_of_ble_eq_true rfl) (Nat.le_of_ble_eq_true rfl) ?_
    exact ⟨rfl, rfl, K, fun a _ => rfl⟩
  · rw [trC, if_neg c]
    refine r_icmp_geN (pc := 8) 13 (tX10_countTrees.at 4 rfl) (by decide) (by omega) (by omega) (fun _ => ?_) (fun z => by omega)
    have ct := c_treesOf (v := v) (h := h) (top := top) (q := x + 83) (g := x + 1) (k := k) (C := C) (U := U) hg (by omega) ⟨by omega, h6⟩ (fun k hk => by have := okg.2.2.2.2 k hk; omega) (ok (by omega))
    rw [hE.self] at ct
    refine r_aload_n (pc := 13) (i := 0) (tX10_countTrees.at 7 rfl) rfl rfl ?_
    refine r_get (pc := 14) (tX10_countTrees.at 8 rfl) gf_X10_51 (hx) rfl ?_
    refine r_aload_n (pc := 17) (i := 0) (tX10_countTrees.at 9 rfl) rfl rfl ?_
    refine r_get (pc := 18) (tX10_countTrees.at 10 rfl) gf_X10_16 (hx) rfl ?_
    refine r_callV (M' := mX1_treesOf) (pc := 21) (tX10_countTrees.at 11 rfl) ml_X10_333 rfl mw_X1_treesOf ⟨by decide, by decide⟩ (hE.1) rfl rfl (ct) rfl rfl (Nat.le_of_ble_eq_true rfl) (Nat.le_of_ble_eq_true rfl) (Nat.le_of_ble_eq_true rfl) ?_
    rintro _ _ _ ⟨rfl, rfl, C', U', k', rfl⟩
    refine r_lret (pc := 24) (tX10_countTrees.at 12 rfl) rfl (Nat.le_of_ble_eq_true rfl) (Nat.le_of_ble_eq_true rfl) ?_
    exact ⟨rfl, rfl, K.uE ⟨_, _, _, eH_is⟩ (fun a ha => eH_out ha), fun a ha => eH_out ha⟩
def sdS (W : Nat → Nat) (n S : Nat) : Nat → Nat
  | 0 => 0
  | u + 1 => if S.testBit u = true then sdS W n S u + degN W u n else sdS W n S u
def cmN (W : Nat → Nat) (n i j : Nat) : Int := muA W n i j (stG W n) * muB W n j i (stG W n) + muA W n j i (stG W n) * muB W n i j (stG W n)
def cmD (W : Nat → Nat) (n i j : Nat) : Int := muB W n i j (stG W n) * muB W n j i (stG W n)
/-- what is needed for the numbers of a mean to stay among the longs -/
def okM (W : Nat → Nat) (n i j : Nat) (g : Nat → Int) : Prop := i ≠ j → okA (muM W n i j g) (muK W n i j)
theorem c_solveX {i S : Nat} {g g0 : Nat → Int} (K : okX v h x Z) (okg : okG Z.2.1) (hi : i < Z.2.1.n) (hS : S < 64) (hN : h (x + 89) = some (aJ v 6 (lF g))) (hgn : ∀ k, k < Z.2.1.n → g k = g0 k) (ok : okA (aug Z.2.1.W Z.2.1.n g0 (unkL S i Z.2.1.n)) (unkL S i Z.2.1.n).length) :
    Cal v mX1_solve 4 0 0 [.ref (x + 83), .ref (x + 1), .int (nI S), .int (nI i), .ref (x + 89), .ref (x + 87)] h top (fun r h' top' => r = none ∧ top = top' ∧ okX v h' x Z ∧ h' (x + 87) = some (frE (slA (aug Z.2.1.W Z.2.1.n g0 (unkL S i Z.2.1.n)) (unkL S i Z.2.1.n).length) (slB (aug Z.2.1.W Z.2.1.n g0 (unkL S i Z.2.1.n)) (unkL S i Z.2.1.n).length)) ∧ ∀ a, (a < x + 83 ∨ x + 88 ≤ a) → h' a = h a) noX := by
  have K' := K
  obtain ⟨⟨-, hg, -, -⟩, ⟨-, -, ⟨C, U, k, hE⟩, ⟨a, b, hfr⟩, -⟩, -⟩ := K'
  have eM : aug Z.2.1.W Z.2.1.n g (unkL S i Z.2.1.n) = aug Z.2.1.W Z.2.1.n g0 (unkL S i Z.2.1.n) := aug_cong hi hgn
  have cm := c_solve (v := v) (h := h) (top := top) (q := x + 83) (g := x + 1) (ga := x + 89) (f := x + 87) (S := S) (w := i) (k := k) (C := C) (U := U) (Gn := g) hg (by omega) (fun C U k => (eH_out (by omega)).trans hN) hfr (by omega) okg.1 hS hi (fun k hk => by have := okg.2.2.2.2 k hk; omega) (by rw [eM]; exact ok)
  rw [hE.self, eM] at cm
  refine cm.mono (fun r h' top' => ?_)
  rintro ⟨rfl, rfl, C', U', k', rfl⟩
  refine ⟨rfl, rfl, (K.uA ⟨_, _, hp_eq _ _ _⟩ (fun a ha => hp_ne _ _ (by omega))).uE ⟨_, _, _, eH_is⟩ (fun a ha => eH_out ha), ?_, fun a ha => ?_⟩
  · rw [eH_out (by omega), hp_eq]
  · rw [eH_out (by omega), hp_ne _ _ (by omega)]
end

