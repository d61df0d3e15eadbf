/-! ===== Partition: the graph of the blocks ===== -/
theorem lF_fil (f : Nat → Int) (n : Nat) (x : Int) : filF (lF f) n (lI x) = lF (filF f n x) := by
  funext k
  show (if k < n then lI x else lI (f k)) = lI (if k < n then x else f k)
  split <;> rfl
theorem w6 {i j i2 j2 : Nat} (h1 : j < 6) (h2 : j2 < 6) : i * 6 + j = i2 * 6 + j2 ↔ i = i2 ∧ j = j2 := by omega
def lpS (W B : Nat → Nat) (n k i j : Nat) : Nat := sN (fun x => if B x = i then wto W B n x j else 0) k
def lgS (W B : Nat → Nat) (n k i : Nat) : Nat := sN (fun x => if B x = i then degN W x n else 0) k
def lpW (W B : Nat → Nat) (n nb k i j : Nat) : Nat := if i < j then (if j < nb then lpS W B n k i j else 0) else if j < i then (if i < nb then lpS W B n k j i else 0) else 0
theorem lpW_sym (W B : Nat → Nat) (n nb k i j : Nat) : lpW W B n nb k i j = lpW W B n nb k j i := by
  unfold lpW
  rcases Nat.lt_trichotomy i j with h | h | h
  · rw [if_pos h, if_neg (show ¬ j < i by omega), if_pos h]
  · rw [h]
  · rw [if_neg (show ¬ i < j by omega), if_pos h, if_pos h]
theorem lpW_same {W B : Nat → Nat} {n nb k i j : Nat} (h : i = j ∨ min i j ≠ B k ∨ nb ≤ max i j) : lpW W B n nb (k + 1) i j = lpW W B n nb k i j := by
  unfold lpW
  split
  · next h1 =>
    split
    · rw [lpS, sN, if_neg (by omega)]
      rfl
    · rfl
  · split
    · next h1 =>
      split
      · rw [lpS, sN, if_neg (by omega)]
        rfl
      · rfl
    · rfl
theorem lpW_up {W B : Nat → Nat} {n nb k j : Nat} (h1 : B k < j) (h2 : j < nb) : lpW W B n nb (k + 1) (B k) j = lpW W B n nb k (B k) j + wto W B n k j := by
  unfold lpW
  rw [if_pos h1, if_pos h2, if_pos h1, if_pos h2, lpS, sN, if_pos rfl]
  rfl
theorem c_ptClear {v : Ev} {h : Hp} {top q n : Nat} {L : GT} {gn : Nat → Int} {fn : Nat → Nat} (hn : n ≤ 6) : Cal v mX3_clear 2 0 0 [.ref (q + 1), .int (nI n)] (pH v h q L gn fn) top (pV (pH v h q (L.cl0 v n 6) gn fn) top) noX := by
  have k := c_clear (v := v) (h := pH v h q L gn fn) (top := top) (g := q + 1) (G := L) hn
  rw [pH_pL, pH_pL] at k
  exact k
theorem c_ptPutW {v : Ev} {h : Hp} {top q a b w : Nat} {L : GT} {gn : Nat → Int} {fn : Nat → Nat} (ha : a < 6) (hb : b < 6) : Cal v mX3_putWeight 1 0 0 [.ref (q + 1), .int (nI a), .int (nI b), .int (nI w)] (pH v h q L gn fn) top (pV (pH v h q (L.sW (pWt L.W a b w)) gn fn) top) noX := by
  have k := c_putW2 (v := v) (h := pH v h q L gn fn) (top := top) (g := q + 1) (G := L) (w := w) ha hb
  rw [pH_pL, pH_pL] at k
  exact k
theorem c_ptFill {v : Ev} {h : Hp} {top q : Nat} {L : GT} {gn : Nat → Int} {fn : Nat → Nat} : Cal v mJ7_fill_d0a16 1 0 0 [.ref (q + 7), .long (lI 0)] (pH v h q L gn fn) top (pV (pH v h q L (filF gn 6 0) fn) top) noX := by
  have k := c_fillJ (v := v) (h := pH v h q L gn fn) (top := top) (a := q + 7) (n := 6) (x := lI 0) pH_7 (by omega)
  rw [lF_fil, pH_p7] at k
  exact k
theorem c_lump {v : Ev} {h : Hp} {top g q : Nat} {G L : GT} {gn : Nat → Int} {fn : Nat → Nat} (hg : isG v h g G) (hd : g + 6 ≤ q ∨ q + 9 ≤ g) (hn : G.n ≤ 6) (hB : ∀ k, k < G.n → G.B k < G.b) (hB2 : ∀ k, k < 6 → G.B k < 2147483648) (hb : G.b ≤ 6) (hW : ∀ k, k < 36 → G.W k ≤ 9) :
    Cal v mX5_lumpBlocks 3 0 0 [.ref q, .ref g] (pH v h q L gn fn) top (fun r h' top' => r = none ∧ top = top' ∧ ∃ L' g', h' = pH v h q L' g' fn ∧ L'.n = G.b ∧ (∀ i j, i < 6 → j < 6 → L'.W (i * 6 + j) = lpW G.W G.B G.n G.b G.n i j) ∧ ∀ i, i < 6 → g' i = (lgS G.W G.B G.n G.n i : Nat)) noX := by
  have gG : ∀ (L : GT) (gn : Nat → Int), isG v (pH v h q L gn fn) g G := fun L gn => pH_G hg hd
  refine Cal.ofJ (by decide +kernel) rfl (Nat.le_of_ble_eq_true rfl) fun hz0 => ?_
  refine r_ls [some (.ref q), some (.ref g), none, none, none] rfl ?_
  generalize hPo : (fun (r : Option Value) (h' : Hp) (top' : Nat) => r = none ∧ top = top' ∧ ∃ L' g', h' = pH v h q L' g' fn ∧ L'.n = G.b ∧ (∀ i j, i < 6 → j < 6 → L'.W (i * 6 + j) = lpW G.W G.B G.n G.b G.n i j) ∧ ∀ i, i < 6 → g' i = (lgS G.W G.B G.n G.n i : Nat)) = Po
  refine r_aload_n (pc := 0) (i := 0) (tX5_lumpBlocks.at 0 rfl) rfl rfl ?_
  refine r_get (pc := 1) (tX5_lumpBlocks.at 1 rfl) gf_X5_12 (pH_0) rfl ?_
  refine r_aload_n (pc := 4) (i := 1) (tX5_lumpBlocks.at 2 rfl) rfl rfl ?_
  refine r_get (pc := 5) (tX5_lumpBlocks.at 3 rfl) gf_X5_45 ((gG _ _).1) rfl ?_
  refine r_callV (M' := mX3_clear) (pc := 8) (tX5_lumpBlocks.at 4 rfl) ml_X5_48 rfl mw_X3_clear ⟨by decide, by decide⟩ (pH_L.1) rfl rfl (c_ptClear hb) rfl rfl (Nat.le_of_ble_eq_true rfl) (Nat.le_of_ble_eq_true rfl) (Nat.le_of_ble_eq_true rfl) ?_
  rintro _ _ _ ⟨rfl, rfl, rfl⟩
  refine r_aload_n (pc := 11) (i := 0) (tX5_lumpBlocks.at 5 rfl) rfl rfl ?_
  refine r_get (pc := 12) (tX5_lumpBlocks.at 6 rfl) gf_X5_18 (pH_0) rfl ?_
  refine r_lconst (pc := 15) (w := lI 0) (tX5_lumpBlocks.at 7 rfl) (by decide) ?_
  refine r_callS (M' := mJ7_fill_d0a16) (pc := 16) (tX5_lumpBlocks.at 8 rfl) ml_X5_52 rfl mw_J7_fill_d0a16 ⟨by decide, by decide⟩ (c_ptFill) rfl rfl (Nat.le_of_ble_eq_true rfl) (Nat.le_of_ble_eq_true rfl) (Nat.le_of_ble_eq_true rfl) ?_
  rintro _ _ _ ⟨rfl, rfl, rfl⟩
  refine r_iconst (pc := 19) (w := nI 0) (tX5_lumpBlocks.at 9 rfl) (by decide) ?_
  refine r_istore_n (pc := 20) (i := 2) (tX5_lumpBlocks.at 10 rfl) rfl (by decide) ?_
  have key2 : ∀ k, k < G.n → (∀ (L : GT) (gn : Nat → Int) o3 o4, L.n = G.b → (∀ i j, i < 6 → j < 6 → L.W (i * 6 + j) = lpW G.W G.B G.n G.b (k + 1) i j) → (∀ i, i < 6 → gn i = (lgS G.W G.B G.n (k + 1) i : Nat)) → J v mX5_lumpBlocks (rmOf 3 0 0) (KM v Po noX 0 0) top 0 0 (pH v h q L gn fn) top 21 [some (.ref q), some (.ref g), some (.int (nI (k + 1))), o3, o4] []) →
      ∀ m b (L : GT) (gn : Nat → Int), b + m = G.b → G.B k < b → L.n = G.b → (∀ i j, i < 6 → j < 6 → L.W (i * 6 + j) = if (i = G.B k ∧ j < b) ∨ (j = G.B k ∧ i < b) then lpW G.W G.B G.n G.b (k + 1) i j else lpW G.W G.B G.n G.b k i j) → (∀ i, i < 6 → gn i = (lgS G.W G.B G.n (k + 1) i : Nat)) → J v mX5_lumpBlocks (rmOf 3 0 0) (KM v Po noX 0 0) top 0 0 (pH v h q L gn fn) top 56 [some (.ref q), some (.ref g), some (.int (nI k)), some (.int (nI (G.B k))), some (.int (nI b))] [] := by
    intro k hk nx m
    have hf := hB k hk
    induction m with
    | zero =>
      intro b L gn hb2 hfb hLn hLW hgn
      have hb2 : b = G.b := by omega
      subst hb2
      refine r_iload (pc := 56) (i := 4) (tX5_lumpBlocks.at 35 rfl) rfl ?_
      refine r_aload_n (pc := 58) (i := 1) (tX5_lumpBlocks.at 36 rfl) rfl rfl ?_
      refine r_get (pc := 59) (tX5_lumpBlocks.at 37 rfl) gf_X5_45 ((gG _ _).1) rfl ?_
      refine r_icmp_geN (pc := 62) 99 (tX5_lumpBlocks.at 38 rfl) (by decide) (by omega) (by omega) (fun _ => ?_) (fun c => by omega)
      first | refine r_iincN (pc := 99) (tX5_lumpBlocks.at 56 rfl) rfl (by decide) ?_ | refine r_iinc (pc := 99) (tX5_lumpBlocks.at 56 rfl) rfl rfl (by decide) ?_
      refine r_goto (pc := 102) 21 (tX5_lumpBlocks.at 57 rfl) (by decide) ?_
      refine nx L gn _ _ hLn (fun i j hi hj => ?_) hgn
      rw [hLW i j hi hj]
      split
      · rfl
      · exact (lpW_same (by omega)).symm
    | succ m ih =>
      intro b L gn hb2 hfb hLn hLW hgn
      refine r_iload (pc := 56) (i := 4) (tX5_lumpBlocks.at 35 rfl) rfl ?_
      refine r_aload_n (pc := 58) (i := 1) (tX5_lumpBlocks.at 36 rfl) rfl rfl ?_
      refine r_get (pc := 59) (tX5_lumpBlocks.at 37 rfl) gf_X5_45 ((gG _ _).1) rfl ?_
      refine r_icmp_geN (pc := 62) 99 (tX5_lumpBlocks.at 38 rfl) (by decide) (by omega) (by omega) (fun c => by omega) (fun _ => ?_)
      refine r_aload_n (pc := 65) (i := 0) (tX5_lumpBlocks.at 39 rfl) rfl rfl ?_
      refine r_get (pc := 66) (tX5_lumpBlocks.at 40 rfl) gf_X5_12 (pH_0) rfl ?_
      refine r_iload_n (pc := 69) (i := 3) (tX5_lumpBlocks.at 41 rfl) rfl rfl ?_
      refine r_iload (pc := 70) (i := 4) (tX5_lumpBlocks.at 42 rfl) rfl ?_
      refine r_aload_n (pc := 72) (i := 0) (tX5_lumpBlocks.at 43 rfl) rfl rfl ?_
      refine r_get (pc := 73) (tX5_lumpBlocks.at 44 rfl) gf_X5_12 (pH_0) rfl ?_
      refine r_iload_n (pc := 76) (i := 3) (tX5_lumpBlocks.at 45 rfl) rfl rfl ?_
      refine r_iload (pc := 77) (i := 4) (tX5_lumpBlocks.at 46 rfl) rfl ?_
      refine r_callV (M' := mX3_weightBetween) (pc := 79) (tX5_lumpBlocks.at 47 rfl) ml_X5_62 rfl mw_X3_weightBetween ⟨by decide, by decide⟩ (pH_L.1) rfl rfl (c_wb pH_L (a := G.B k) (b := b) (by omega)) rfl rfl (Nat.le_of_ble_eq_true rfl) (Nat.le_of_ble_eq_true rfl) (Nat.le_of_ble_eq_true rfl) ?_
      rintro _ _ _ ⟨rfl, rfl, rfl⟩
      refine r_aload_n (pc := 82) (i := 1) (tX5_lumpBlocks.at 48 rfl) rfl rfl ?_
      refine r_iload_n (pc := 83) (i := 2) (tX5_lumpBlocks.at 49 rfl) rfl rfl ?_
      refine r_iload (pc := 84) (i := 4) (tX5_lumpBlocks.at 50 rfl) rfl ?_
      refine r_callS (M' := mX5_weightTo) (pc := 86) (tX5_lumpBlocks.at 51 rfl) ml_X5_66 rfl mw_X5_weightTo ⟨by decide, by decide⟩ (c_wto (gG _ _) hn hB2 (x := k) (b := b) (by omega) (by omega)) rfl rfl (Nat.le_of_ble_eq_true rfl) (Nat.le_of_ble_eq_true rfl) (Nat.le_of_ble_eq_true rfl) ?_
      rintro _ _ _ ⟨rfl, rfl, rfl⟩
      first | refine r_iaddN (pc := 89) (tX5_lumpBlocks.at 52 rfl) ?_ | refine r_iaddZ (pc := 89) (tX5_lumpBlocks.at 52 rfl) ?_ | refine r_iadd (pc := 89) (tX5_lumpBlocks.at 52 rfl) ?_
      refine r_callV (M' := mX3_putWeight) (pc := 90) (tX5_lumpBlocks.at 53 rfl) ml_X5_69 rfl mw_X3_putWeight ⟨by decide, by decide⟩ (pH_L.1) rfl rfl (c_ptPutW (by omega) (by omega)) rfl rfl (Nat.le_of_ble_eq_true rfl) (Nat.le_of_ble_eq_true rfl) (Nat.le_of_ble_eq_true rfl) ?_
      rintro _ _ _ ⟨rfl, rfl, rfl⟩
      first | refine r_iincN (pc := 93) (tX5_lumpBlocks.at 54 rfl) rfl (by decide) ?_ | refine r_iinc (pc := 93) (tX5_lumpBlocks.at 54 rfl) rfl rfl (by decide) ?_
      refine r_goto (pc := 96) 56 (tX5_lumpBlocks.at 55 rfl) (by decide) ?_
      refine ih (b + 1) _ gn (by omega) (by omega) hLn (fun i j hi hj => ?_) hgn
      have e0 := hLW (G.B k) b (by omega) (by omega)
      rw [if_neg (by omega)] at e0
      show upN (upN L.W (G.B k * 6 + b) _) (b * 6 + G.B k) _ (i * 6 + j) = _
      by_cases h1 : i = b ∧ j = G.B k
      · obtain ⟨rfl, rfl⟩ := h1
        rw [upN_eq, if_pos (by omega), lpW_sym, lpW_up (by omega) (by omega), e0]
      · rw [upN_ne _ _ (by rw [ne_eq, w6 (by omega) (by omega)]; omega)]
        by_cases h2 : i = G.B k ∧ j = b
        · obtain ⟨rfl, rfl⟩ := h2
          rw [upN_eq, if_pos (by omega), lpW_up (by omega) (by omega), e0]
        · rw [upN_ne _ _ (by rw [ne_eq, w6 (by omega) (by omega)]; omega), hLW i j hi hj]
          by_cases h3 : (i = G.B k ∧ j < b) ∨ (j = G.B k ∧ i < b)
          · rw [if_pos h3, if_pos (by omega)]
          · rw [if_neg h3, if_neg (by omega)]
  have key1 : ∀ m k (L : GT) (gn : Nat → Int) o3 o4, k + m = G.n → L.n = G.b → (∀ i j, i < 6 → j < 6 → L.W (i * 6 + j) = lpW G.W G.B G.n G.b k i j) → (∀ i, i < 6 → gn i = (lgS G.W G.B G.n k i : Nat)) → J v mX5_lumpBlocks (rmOf 3 0 0) (KM v Po noX 0 0) top 0 0 (pH v h q L gn fn) top 21 [some (.ref q), some (.ref g), some (.int (nI k)), o3, o4] [] := by
    intro m
    induction m with
    | zero =>
      intro k L gn o3 o4 hk hLn hLW hgn
      have hk : k = G.n := by omega
      subst hk
      refine r_iload_n (pc := 21) (i := 2) (tX5_lumpBlocks.at 11 rfl) rfl rfl ?_
      refine r_aload_n (pc := 22) (i := 1) (tX5_lumpBlocks.at 12 rfl) rfl rfl ?_
      refine r_get (pc := 23) (tX5_lumpBlocks.at 13 rfl) gf_X5_26 ((gG _ _).1) rfl ?_
      refine r_icmp_geN (pc := 26) 105 (tX5_lumpBlocks.at 14 rfl) (by decide) (by omega) (by omega) (fun _ => ?_) (fun c => by omega)
      refine r_vret (pc := 105) (tX5_lumpBlocks.at 58 rfl) rfl (Nat.le_of_ble_eq_true rfl) (Nat.le_of_ble_eq_true rfl) ?_
      subst hPo
      exact ⟨rfl, rfl, L, gn, rfl, hLn, hLW, hgn⟩
    | succ m ih =>
      intro k L gn o3 o4 hk hLn hLW hgn
      have hf := hB k (by omega)
      have hdg := degN_le (x := k) hn (by omega) hW
      refine r_iload_n (pc := 21) (i := 2) (tX5_lumpBlocks.at 11 rfl) rfl rfl ?_
      refine r_aload_n (pc := 22) (i := 1) (tX5_lumpBlocks.at 12 rfl) rfl rfl ?_
      refine r_get (pc := 23) (tX5_lumpBlocks.at 13 rfl) gf_X5_26 ((gG _ _).1) rfl ?_
      refine r_icmp_geN (pc := 26) 105 (tX5_lumpBlocks.at 14 rfl) (by decide) (by omega) (by omega) (fun c => by omega) (fun _ => ?_)
      refine r_aload_n (pc := 29) (i := 1) (tX5_lumpBlocks.at 15 rfl) rfl rfl ?_
      refine r_get (pc := 30) (tX5_lumpBlocks.at 16 rfl) gf_X5_30 ((gG _ _).1) rfl ?_
      refine r_iload_n (pc := 33) (i := 2) (tX5_lumpBlocks.at 17 rfl) rfl rfl ?_
      refine r_iald (pc := 34) (tX5_lumpBlocks.at 18 rfl) ((gG _ _).2.2.2.2.1) (k) (rfl) (by omega) (Nat.le_of_ble_eq_true rfl) ?_
      rw [show iF G.B k = nI (G.B k) from rfl]
      refine r_istore_n (pc := 35) (i := 3) (tX5_lumpBlocks.at 19 rfl) rfl (by decide) ?_
      refine r_aload_n (pc := 36) (i := 0) (tX5_lumpBlocks.at 20 rfl) rfl rfl ?_
      refine r_get (pc := 37) (tX5_lumpBlocks.at 21 rfl) gf_X5_18 (pH_0) rfl ?_
      refine r_iload_n (pc := 40) (i := 3) (tX5_lumpBlocks.at 22 rfl) rfl rfl ?_
      first | refine r_dup2_11 (pc := 41) (tX5_lumpBlocks.at 23 rfl) rfl rfl ?_ | refine r_dup2_2 (pc := 41) (tX5_lumpBlocks.at 23 rfl) rfl ?_
      refine r_lald (pc := 42) (tX5_lumpBlocks.at 24 rfl) (pH_7) (G.B k) (rfl) (by omega) (Nat.le_of_ble_eq_true rfl) ?_
      rw [show lF gn (G.B k) = lI (gn (G.B k)) from rfl]
      refine r_aload_n (pc := 43) (i := 1) (tX5_lumpBlocks.at 25 rfl) rfl rfl ?_
      refine r_iload_n (pc := 44) (i := 2) (tX5_lumpBlocks.at 26 rfl) rfl rfl ?_
      refine r_callV (M' := mX3_sumOfWeights) (pc := 45) (tX5_lumpBlocks.at 27 rfl) ml_X5_58 rfl mw_X3_sumOfWeights ⟨by decide, by decide⟩ ((gG _ _).1) rfl rfl (c_sow (gG _ _) hn (by omega)) rfl rfl (Nat.le_of_ble_eq_true rfl) (Nat.le_of_ble_eq_true rfl) (Nat.le_of_ble_eq_true rfl) ?_
      rintro _ _ _ ⟨rfl, rfl, rfl⟩
      first | refine r_i2lN (pc := 48) (tX5_lumpBlocks.at 28 rfl) (by omega) ?_ | refine r_i2lZ (pc := 48) (tX5_lumpBlocks.at 28 rfl) ⟨by omega, by omega⟩ ?_ | refine r_i2l (pc := 48) (tX5_lumpBlocks.at 28 rfl) ?_
      first | refine r_laddL (pc := 49) (tX5_lumpBlocks.at 29 rfl) ?_ | refine r_ladd (pc := 49) (tX5_lumpBlocks.at 29 rfl) ?_
      refine r_last (pc := 50) (tX5_lumpBlocks.at 30 rfl) (pH_7) (G.B k) (rfl) (by omega) (Nat.le_of_ble_eq_true rfl) ?_
      rw [upd_lF, pH_p7]
      refine r_iload_n (pc := 51) (i := 3) (tX5_lumpBlocks.at 31 rfl) rfl rfl ?_
      refine r_iconst (pc := 52) (w := nI 1) (tX5_lumpBlocks.at 32 rfl) (by decide) ?_
      first | refine r_iaddN (pc := 53) (tX5_lumpBlocks.at 33 rfl) ?_ | refine r_iaddZ (pc := 53) (tX5_lumpBlocks.at 33 rfl) ?_ | refine r_iadd (pc := 53) (tX5_lumpBlocks.at 33 rfl) ?_
      refine r_istore (pc := 54) (i := 4) (tX5_lumpBlocks.at 34 rfl) (by decide) ?_
      refine key2 k (by omega) (fun L gn o3 o4 h1 h2 h3 => ih (k + 1) L gn o3 o4 (by omega) h1 h2 h3) (G.b - (G.B k + 1)) (G.B k + 1) L _ (by omega) (by omega) hLn (fun i j hi hj => ?_) (fun i hi => ?_)
      · rw [hLW i j hi hj]
        split
        · exact (lpW_same (by omega)).symm
        · rfl
      · rw [lgS, sN]
        by_cases e : i = G.B k
        · subst e
          rw [upZ_eq, if_pos rfl, hgn _ hi]
          rfl
        · rw [upZ_ne _ _ e, if_neg (fun z => e z.symm), hgn _ hi]
          rfl
  refine key1 G.n 0 _ _ _ _ (by omega) rfl (fun i j hi hj => ?_) (fun i hi => ?_)
  · show filF L.W 36 0 (i * 6 + j) = _
    unfold filF lpW
    rw [if_pos (by omega)]
    split
    · split <;> rfl
    · split
      · split <;> rfl
      · rfl
  · show filF gn 6 0 i = _
    unfold filF
    rw [if_pos hi]
    rfl
/-- the transition between two blocks, as it is put -/
def bcN (L : GT) (gn : Nat → Int) (x y : Nat) : Int := if gn x ≤ 0 then (if x = y then 1 else 0) else if x = y then gn x - (degN L.W x L.n : Nat) else (L.W (x * 6 + y) : Nat)
def bcD (gn : Nat → Int) (x : Nat) : Int := if gn x ≤ 0 then 1 else gn x
theorem c_bch {v : Ev} {h : Hp} {top q f x y : Nat} {L : GT} {gn : Nat → Int} {fn : Nat → Nat} {a b : Int} (hf : h f = some (frE a b)) (hfd : f < q ∨ q + 9 ≤ f) (hn : L.n ≤ 6) (hx : x < 6) (hy : y < 6) (hgn : 0 ≤ gn x ∧ gn x ≤ 1000000) (hW : ∀ k, k < 36 → L.W k ≤ 1000000) :
    Cal v mX5_blockChance 4 0 0 [.ref q, .int (nI x), .int (nI y), .ref f] (pH v h q L gn fn) top (pV (pH v (hp h f (frE (rdA (bcN L gn x y) (bcD gn x)) (rdB (bcN L gn x y) (bcD gn x)))) q L gn fn) top) noX := by
  have hdg := degN_le (x := x) hn hx hW
  have hF := (pH_out (v := v) (h := h) (q := q) (L := L) (gn := gn) (fn := fn) hfd).trans hf
  have hw := hW (x * 6 + y) (by omega)
  refine Cal.ofJ (by decide +kernel) rfl (Nat.le_of_ble_eq_true rfl) fun hz0 => ?_
  refine r_ls [some (.ref q), some (.int (nI x)), some (.int (nI y)), some (.ref f), none, none] rfl ?_
  refine r_aload_n (pc := 0) (i := 0) (tX5_blockChance.at 0 rfl) rfl rfl ?_
  refine r_get (pc := 1) (tX5_blockChance.at 1 rfl) gf_X5_18 (pH_0) rfl ?_
  refine r_iload_n (pc := 4) (i := 1) (tX5_blockChance.at 2 rfl) rfl rfl ?_
  refine r_lald (pc := 5) (tX5_blockChance.at 3 rfl) (pH_7) (x) (rfl) (by omega) (Nat.le_of_ble_eq_true rfl) ?_
  rw [show lF gn x = lI (gn x) from rfl]
  refine r_lstore (pc := 6) (i := 4) (tX5_blockChance.at 4 rfl) (by decide) ?_
  refine r_lload (pc := 8) (i := 4) (tX5_blockChance.at 5 rfl) rfl ?_
  refine r_lconst (pc := 10) (w := lI 0) (tX5_blockChance.at 6 rfl) (by decide) ?_
  refine r_lc_gt (pc := 11) 33 (tX5_blockChance.at 7 rfl) (tX5_blockChance.at 8 rfl) (by decide) (⟨by omega, by omega⟩) (⟨by omega, by omega⟩) (fun c => ?_) (fun c => ?_)
  · rw [bcN, bcD, if_neg (show ¬ gn x ≤ 0 by omega), if_neg (show ¬ gn x ≤ 0 by omega)]
    refine r_iload_n (pc := 33) (i := 1) (tX5_blockChance.at 19 rfl) rfl rfl ?_
    refine r_iload_n (pc := 34) (i := 2) (tX5_blockChance.at 20 rfl) rfl rfl ?_
    refine r_icmp_neN (pc := 35) 59 (tX5_blockChance.at 21 rfl) (by decide) (by omega) (by omega) (fun c2 => ?_) (fun c2 => ?_)
    · rw [if_neg c2]
      refine r_aload_n (pc := 59) (i := 3) (tX5_blockChance.at 33 rfl) rfl rfl ?_
      refine r_aload_n (pc := 60) (i := 0) (tX5_blockChance.at 34 rfl) rfl rfl ?_
      refine r_get (pc := 61) (tX5_blockChance.at 35 rfl) gf_X5_12 (pH_0) rfl ?_
      refine r_iload_n (pc := 64) (i := 1) (tX5_blockChance.at 36 rfl) rfl rfl ?_
      refine r_iload_n (pc := 65) (i := 2) (tX5_blockChance.at 37 rfl) rfl rfl ?_
      refine r_callV (M' := mX3_weightBetween) (pc := 66) (tX5_blockChance.at 38 rfl) ml_X5_62 rfl mw_X3_weightBetween ⟨by decide, by decide⟩ (pH_L.1) rfl rfl (c_wb pH_L (a := x) (b := y) (by omega)) rfl rfl (Nat.le_of_ble_eq_true rfl) (Nat.le_of_ble_eq_true rfl) (Nat.le_of_ble_eq_true rfl) ?_
      rintro _ _ _ ⟨rfl, rfl, rfl⟩
      first | refine r_i2lN (pc := 69) (tX5_blockChance.at 39 rfl) (by omega) ?_ | refine r_i2lZ (pc := 69) (tX5_blockChance.at 39 rfl) ⟨by omega, by omega⟩ ?_ | refine r_i2l (pc := 69) (tX5_blockChance.at 39 rfl) ?_
      refine r_lload (pc := 70) (i := 4) (tX5_blockChance.at 40 rfl) rfl ?_
      refine r_callV (M' := mX2_put) (pc := 72) (tX5_blockChance.at 41 rfl) ml_X5_73 rfl mw_X2_put ⟨by decide, by decide⟩ (hF) rfl rfl (c_frPut hF (by omega) (by omega)) rfl rfl (Nat.le_of_ble_eq_true rfl) (Nat.le_of_ble_eq_true rfl) (Nat.le_of_ble_eq_true rfl) ?_
      rintro _ _ _ ⟨rfl, rfl, rfl⟩
      rw [pH_put hfd]
      refine r_vret (pc := 75) (tX5_blockChance.at 42 rfl) rfl (Nat.le_of_ble_eq_true rfl) (Nat.le_of_ble_eq_true rfl) ?_
      exact ⟨rfl, rfl, rfl⟩
    · rw [if_pos c2]
      refine r_aload_n (pc := 38) (i := 3) (tX5_blockChance.at 22 rfl) rfl rfl ?_
      refine r_lload (pc := 39) (i := 4) (tX5_blockChance.at 23 rfl) rfl ?_
      refine r_aload_n (pc := 41) (i := 0) (tX5_blockChance.at 24 rfl) rfl rfl ?_
      refine r_get (pc := 42) (tX5_blockChance.at 25 rfl) gf_X5_12 (pH_0) rfl ?_
      refine r_iload_n (pc := 45) (i := 1) (tX5_blockChance.at 26 rfl) rfl rfl ?_
      refine r_callV (M' := mX3_sumOfWeights) (pc := 46) (tX5_blockChance.at 27 rfl) ml_X5_58 rfl mw_X3_sumOfWeights ⟨by decide, by decide⟩ (pH_L.1) rfl rfl (c_sow pH_L hn hx) rfl rfl (Nat.le_of_ble_eq_true rfl) (Nat.le_of_ble_eq_true rfl) (Nat.le_of_ble_eq_true rfl) ?_
      rintro _ _ _ ⟨rfl, rfl, rfl⟩
      first | refine r_i2lN (pc := 49) (tX5_blockChance.at 28 rfl) (by omega) ?_ | refine r_i2lZ (pc := 49) (tX5_blockChance.at 28 rfl) ⟨by omega, by omega⟩ ?_ | refine r_i2l (pc := 49) (tX5_blockChance.at 28 rfl) ?_
      first | refine r_lsubL (pc := 50) (tX5_blockChance.at 29 rfl) ?_ | refine r_lsub (pc := 50) (tX5_blockChance.at 29 rfl) ?_
      refine r_lload (pc := 51) (i := 4) (tX5_blockChance.at 30 rfl) rfl ?_
      refine r_callV (M' := mX2_put) (pc := 53) (tX5_blockChance.at 31 rfl) ml_X5_73 rfl mw_X2_put ⟨by decide, by decide⟩ (hF) rfl rfl (c_frPut hF (by omega) (by omega)) rfl rfl (Nat.le_of_ble_eq_true rfl) (Nat.le_of_ble_eq_true rfl) (Nat.le_of_ble_eq_true rfl) ?_
      rintro _ _ _ ⟨rfl, rfl, rfl⟩
      refine r_goto (pc := 56) 75 (tX5_blockChance.at 32 rfl) (by decide) ?_
      rw [pH_put hfd]
      refine r_vret (pc := 75) (tX5_blockChance.at 42 rfl) rfl (Nat.le_of_ble_eq_true rfl) (Nat.le_of_ble_eq_true rfl) ?_
      exact ⟨rfl, rfl, rfl⟩
  · rw [bcN, bcD, if_pos c, if_pos c]
    refine r_aload_n (pc := 15) (i := 3) (tX5_blockChance.at 9 rfl) rfl rfl ?_
    refine r_iload_n (pc := 16) (i := 1) (tX5_blockChance.at 10 rfl) rfl rfl ?_
    refine r_iload_n (pc := 17) (i := 2) (tX5_blockChance.at 11 rfl) rfl rfl ?_
    refine r_icmp_neN (pc := 18) 25 (tX5_blockChance.at 12 rfl) (by decide) (by omega) (by omega) (fun c2 => ?_) (fun c2 => ?_)
    · rw [if_neg c2]
      refine r_lconst (pc := 25) (w := lI 0) (tX5_blockChance.at 15 rfl) (by decide) ?_
      refine r_lconst (pc := 26) (w := lI 1) (tX5_blockChance.at 16 rfl) (by decide) ?_
      refine r_callV (M' := mX2_put) (pc := 27) (tX5_blockChance.at 17 rfl) ml_X5_73 rfl mw_X2_put ⟨by decide, by decide⟩ (hF) rfl rfl (c_frPut (n := 0) (d := 1) hF (by omega) (by omega)) rfl rfl (Nat.le_of_ble_eq_true rfl) (Nat.le_of_ble_eq_true rfl) (Nat.le_of_ble_eq_true rfl) ?_
      rintro _ _ _ ⟨rfl, rfl, rfl⟩
      refine r_goto (pc := 30) 75 (tX5_blockChance.at 18 rfl) (by decide) ?_
      rw [pH_put hfd]
      refine r_vret (pc := 75) (tX5_blockChance.at 42 rfl) rfl (Nat.le_of_ble_eq_true rfl) (Nat.le_of_ble_eq_true rfl) ?_
      exact ⟨rfl, rfl, rfl⟩
    · rw [if_pos c2]
      refine r_lconst (pc := 21) (w := lI 1) (tX5_blockChance.at 13 rfl) (by decide) ?_
      refine r_goto (pc := 22) 26 (tX5_blockChance.at 14 rfl) (by decide) ?_
      refine r_lconst (pc := 26) (w := lI 1) (tX5_blockChance.at 16 rfl) (by decide) ?_
      refine r_callV (M' := mX2_put) (pc := 27) (tX5_blockChance.at 17 rfl) ml_X5_73 rfl mw_X2_put ⟨by decide, by decide⟩ (hF) rfl rfl (c_frPut (n := 1) (d := 1) hF (by omega) (by omega)) rfl rfl (Nat.le_of_ble_eq_true rfl) (Nat.le_of_ble_eq_true rfl) (Nat.le_of_ble_eq_true rfl) ?_
      rintro _ _ _ ⟨rfl, rfl, rfl⟩
      refine r_goto (pc := 30) 75 (tX5_blockChance.at 18 rfl) (by decide) ?_
      rw [pH_put hfd]
      refine r_vret (pc := 75) (tX5_blockChance.at 42 rfl) rfl (Nat.le_of_ble_eq_true rfl) (Nat.le_of_ble_eq_true rfl) ?_
      exact ⟨rfl, rfl, rfl⟩

