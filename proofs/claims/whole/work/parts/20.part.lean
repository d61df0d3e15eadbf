/-! ===== Partition ===== -/
def wto (W B : Nat → Nat) (n x b : Nat) : Nat := sN (fun u => if B u = b then W (x * 6 + u) else 0) n
theorem wto_le {W B : Nat → Nat} {n x b c : Nat} (hn : n ≤ 6) (hx : x < 6) (hW : ∀ k, k < 36 → W k ≤ c) : wto W B n x b ≤ 6 * c := by
  have h1 : wto W B n x b ≤ n * c := sN_le n (fun k hk => by
    split
    · exact hW _ (by omega)
    · omega)
  have h2 : n * c ≤ 6 * c := Nat.mul_le_mul_right _ hn
  omega
theorem degN_le {W : Nat → Nat} {n x c : Nat} (hn : n ≤ 6) (hx : x < 6) (hW : ∀ k, k < 36 → W k ≤ c) : degN W x n ≤ 6 * c := by
  have h1 : degN W x n ≤ n * c := sN_le n (fun k hk => hW _ (by omega))
  have h2 : n * c ≤ 6 * c := Nat.mul_le_mul_right _ hn
  omega
theorem c_wto {v : Ev} {h : Hp} {top g : Nat} {G : GT} (hg : isG v h g G) (hn : G.n ≤ 6) (hB : ∀ k, k < 6 → G.B k < 2147483648) {x b : Nat} (hx : x < 6) (hb : b < 2147483648) : Cal v mX5_weightTo 2 0 0 [.ref g, .int (nI x), .int (nI b)] h top (pR (.int (nI (wto G.W G.B G.n x b))) h top) noX := by
  refine Cal.ofJ (by decide +kernel) rfl (Nat.le_of_ble_eq_true rfl) fun hz0 => ?_
  refine r_ls [some (.ref g), some (.int (nI x)), some (.int (nI b)), none, none] rfl ?_
  refine r_iconst (pc := 0) (w := nI 0) (tX5_weightTo.at 0 rfl) (by decide) ?_
  refine r_istore_n (pc := 1) (i := 3) (tX5_weightTo.at 1 rfl) rfl (by decide) ?_
  refine r_iconst (pc := 2) (w := nI 0) (tX5_weightTo.at 2 rfl) (by decide) ?_
  refine r_istore (pc := 3) (i := 4) (tX5_weightTo.at 3 rfl) (by decide) ?_
  refine down (n := G.n) (P := fun u => J v mX5_weightTo (rmOf 2 0 0) (KM v (pR (.int (nI (wto G.W G.B G.n x b))) h top) noX 0 0) top 0 0 h top 5 [some (.ref g), some (.int (nI x)), some (.int (nI b)), some (.int (nI (wto G.W G.B u x b))), some (.int (nI u))] []) ?_ ?_ 0 (by omega)
  · refine r_iload (pc := 5) (i := 4) (tX5_weightTo.at 4 rfl) rfl ?_
    refine r_aload_n (pc := 7) (i := 0) (tX5_weightTo.at 5 rfl) rfl rfl ?_
    refine r_get (pc := 8) (tX5_weightTo.at 6 rfl) gf_X5_26 (hg.1) rfl ?_
    refine r_icmp_geN (pc := 11) 41 (tX5_weightTo.at 7 rfl) (by decide) (by omega) (by omega) (fun _ => ?_) (fun c => by omega)
    refine r_iload_n (pc := 41) (i := 3) (tX5_weightTo.at 23 rfl) rfl rfl ?_
    refine r_iret (pc := 42) (tX5_weightTo.at 24 rfl) rfl (Nat.le_of_ble_eq_true rfl) (Nat.le_of_ble_eq_true rfl) ?_
    exact ⟨rfl, rfl, rfl⟩
  · intro u hu ih
    have hb2 := hB u (by omega)
    refine r_iload (pc := 5) (i := 4) (tX5_weightTo.at 4 rfl) rfl ?_
    refine r_aload_n (pc := 7) (i := 0) (tX5_weightTo.at 5 rfl) rfl rfl ?_
    refine r_get (pc := 8) (tX5_weightTo.at 6 rfl) gf_X5_26 (hg.1) rfl ?_
    refine r_icmp_geN (pc := 11) 41 (tX5_weightTo.at 7 rfl) (by decide) (by omega) (by omega) (fun c => by omega) (fun _ => ?_)
    refine r_aload_n (pc := 14) (i := 0) (tX5_weightTo.at 8 rfl) rfl rfl ?_
    refine r_get (pc := 15) (tX5_weightTo.at 9 rfl) gf_X5_30 (hg.1) rfl ?_
    refine r_iload (pc := 18) (i := 4) (tX5_weightTo.at 10 rfl) rfl ?_
    refine r_iald (pc := 20) (tX5_weightTo.at 11 rfl) (hg.2.2.2.2.1) (u) (rfl) (by omega) (Nat.le_of_ble_eq_true rfl) ?_
    refine r_iload_n (pc := 21) (i := 2) (tX5_weightTo.at 12 rfl) rfl rfl ?_
    rw [show iF G.B u = nI (G.B u) from rfl]
    refine r_icmp_neN (pc := 22) 35 (tX5_weightTo.at 13 rfl) (by decide) (by omega) (by omega) (fun c => ?_) (fun c => ?_)
    · first | refine r_iincN (pc := 35) (tX5_weightTo.at 21 rfl) rfl (by decide) ?_ | refine r_iinc (pc := 35) (tX5_weightTo.at 21 rfl) rfl rfl (by decide) ?_
      refine r_goto (pc := 38) 5 (tX5_weightTo.at 22 rfl) (by decide) ?_
      rw [show wto G.W G.B (u + 1) x b = wto G.W G.B u x b by rw [wto, sN, if_neg c]; rfl] at ih
      exact ih
    · refine r_iload_n (pc := 25) (i := 3) (tX5_weightTo.at 14 rfl) rfl rfl ?_
      refine r_aload_n (pc := 26) (i := 0) (tX5_weightTo.at 15 rfl) rfl rfl ?_
      refine r_iload_n (pc := 27) (i := 1) (tX5_weightTo.at 16 rfl) rfl rfl ?_
      refine r_iload (pc := 28) (i := 4) (tX5_weightTo.at 17 rfl) rfl ?_
      refine r_callV (M' := mX3_weightBetween) (pc := 30) (tX5_weightTo.at 18 rfl) ml_X5_62 rfl mw_X3_weightBetween ⟨by decide, by decide⟩ (hg.1) rfl rfl (c_wb hg (a := x) (b := u) (by omega)) rfl rfl (Nat.le_of_ble_eq_true rfl) (Nat.le_of_ble_eq_true rfl) (Nat.le_of_ble_eq_true rfl) ?_
      rintro _ _ _ ⟨rfl, rfl, rfl⟩
      first | refine r_iaddN (pc := 33) (tX5_weightTo.at 19 rfl) ?_ | refine r_iaddZ (pc := 33) (tX5_weightTo.at 19 rfl) ?_ | refine r_iadd (pc := 33) (tX5_weightTo.at 19 rfl) ?_
      refine r_istore_n (pc := 34) (i := 3) (tX5_weightTo.at 20 rfl) rfl (by decide) ?_
      first | refine r_iincN (pc := 35) (tX5_weightTo.at 21 rfl) rfl (by decide) ?_ | refine r_iinc (pc := 35) (tX5_weightTo.at 21 rfl) rfl rfl (by decide) ?_
      refine r_goto (pc := 38) 5 (tX5_weightTo.at 22 rfl) (by decide) ?_
      rw [show wto G.W G.B (u + 1) x b = wto G.W G.B u x b + G.W (x * 6 + u) by rw [wto, sN, if_pos c]; rfl] at ih
      exact ih
def dg1 (W : Nat → Nat) (n x : Nat) : Nat := max 1 (degN W x n)
/-- the transitions of x and y to b differ -/
def dfB (W B : Nat → Nat) (n x y b : Nat) : Bool := decide (b ≠ B x) && decide (wto W B n x b * dg1 W n y ≠ wto W B n y b * dg1 W n x)
def fdN (W B : Nat → Nat) (n nb x y : Nat) : Nat := fstN (dfB W B n x y) nb
def fdR (k nb : Nat) : Int32 := if k < nb then nI k else zI (-1)
theorem c_firstD {v : Ev} {h : Hp} {top g : Nat} {G : GT} (hg : isG v h g G) (hn : G.n ≤ 6) (hB : ∀ k, k < 6 → G.B k < 2147483648) (hb : G.b ≤ 6) (hW : ∀ k, k < 36 → G.W k ≤ 9) {x y : Nat} (hx : x < 6) (hy : y < 6) : Cal v mX5_firstDifference 3 0 0 [.ref g, .int (nI x), .int (nI y)] h top (pR (.int (fdR (fdN G.W G.B G.n G.b x y) G.b)) h top) noX := by
  have dx := degN_le (x := x) hn hx hW
  have dy := degN_le (x := y) hn hy hW
  refine Cal.ofJ (by decide +kernel) rfl (Nat.le_of_ble_eq_true rfl) fun hz0 => ?_
  refine r_ls [some (.ref g), some (.int (nI x)), some (.int (nI y)), none, none, none] rfl ?_
  refine r_iconst (pc := 0) (w := nI 1) (tX5_firstDifference.at 0 rfl) (by decide) ?_
  refine r_aload_n (pc := 1) (i := 0) (tX5_firstDifference.at 1 rfl) rfl rfl ?_
  refine r_iload_n (pc := 2) (i := 1) (tX5_firstDifference.at 2 rfl) rfl rfl ?_
  refine r_callV (M' := mX3_sumOfWeights) (pc := 3) (tX5_firstDifference.at 3 rfl) ml_X5_58 rfl mw_X3_sumOfWeights ⟨by decide, by decide⟩ (hg.1) rfl rfl (c_sow hg hn hx) rfl rfl (Nat.le_of_ble_eq_true rfl) (Nat.le_of_ble_eq_true rfl) (Nat.le_of_ble_eq_true rfl) ?_
  rintro _ _ _ ⟨rfl, rfl, rfl⟩
  first | refine r_mmaxN (pc := 6) (tX5_firstDifference.at 4 rfl) ml_X5_79 mw_max_s mw_math mw_max_c (Nat.le_of_ble_eq_true rfl) (Nat.le_of_ble_eq_true rfl) (Nat.le_of_ble_eq_true rfl) (Nat.le_of_ble_eq_true rfl) (by omega) (by omega) ?_ | refine r_mmaxZ (pc := 6) (tX5_firstDifference.at 4 rfl) ml_X5_79 mw_max_s mw_math mw_max_c (Nat.le_of_ble_eq_true rfl) (Nat.le_of_ble_eq_true rfl) (Nat.le_of_ble_eq_true rfl) (Nat.le_of_ble_eq_true rfl) ⟨by omega, by omega⟩ ⟨by omega, by omega⟩ ?_ | refine r_mmax (pc := 6) (tX5_firstDifference.at 4 rfl) ml_X5_79 mw_max_s mw_math mw_max_c (Nat.le_of_ble_eq_true rfl) (Nat.le_of_ble_eq_true rfl) (Nat.le_of_ble_eq_true rfl) (Nat.le_of_ble_eq_true rfl) ?_
  refine r_istore_n (pc := 9) (i := 3) (tX5_firstDifference.at 5 rfl) rfl (by decide) ?_
  refine r_iconst (pc := 10) (w := nI 1) (tX5_firstDifference.at 6 rfl) (by decide) ?_
  refine r_aload_n (pc := 11) (i := 0) (tX5_firstDifference.at 7 rfl) rfl rfl ?_
  refine r_iload_n (pc := 12) (i := 2) (tX5_firstDifference.at 8 rfl) rfl rfl ?_
  refine r_callV (M' := mX3_sumOfWeights) (pc := 13) (tX5_firstDifference.at 9 rfl) ml_X5_58 rfl mw_X3_sumOfWeights ⟨by decide, by decide⟩ (hg.1) rfl rfl (c_sow hg hn hy) rfl rfl (Nat.le_of_ble_eq_true rfl) (Nat.le_of_ble_eq_true rfl) (Nat.le_of_ble_eq_true rfl) ?_
  rintro _ _ _ ⟨rfl, rfl, rfl⟩
  first | refine r_mmaxN (pc := 16) (tX5_firstDifference.at 10 rfl) ml_X5_79 mw_max_s mw_math mw_max_c (Nat.le_of_ble_eq_true rfl) (Nat.le_of_ble_eq_true rfl) (Nat.le_of_ble_eq_true rfl) (Nat.le_of_ble_eq_true rfl) (by omega) (by omega) ?_ | refine r_mmaxZ (pc := 16) (tX5_firstDifference.at 10 rfl) ml_X5_79 mw_max_s mw_math mw_max_c (Nat.le_of_ble_eq_true rfl) (Nat.le_of_ble_eq_true rfl) (Nat.le_of_ble_eq_true rfl) (Nat.le_of_ble_eq_true rfl) ⟨by omega, by omega⟩ ⟨by omega, by omega⟩ ?_ | refine r_mmax (pc := 16) (tX5_firstDifference.at 10 rfl) ml_X5_79 mw_max_s mw_math mw_max_c (Nat.le_of_ble_eq_true rfl) (Nat.le_of_ble_eq_true rfl) (Nat.le_of_ble_eq_true rfl) (Nat.le_of_ble_eq_true rfl) ?_
  refine r_istore (pc := 19) (i := 4) (tX5_firstDifference.at 11 rfl) (by decide) ?_
  refine r_iconst (pc := 21) (w := nI 0) (tX5_firstDifference.at 12 rfl) (by decide) ?_
  refine r_istore (pc := 22) (i := 5) (tX5_firstDifference.at 13 rfl) (by decide) ?_
  have key : ∀ m b, b + m = G.b → (∀ j, j < b → dfB G.W G.B G.n x y j = false) → J v mX5_firstDifference (rmOf 3 0 0) (KM v (pR (.int (fdR (fdN G.W G.B G.n G.b x y) G.b)) h top) noX 0 0) top 0 0 h top 24 [some (.ref g), some (.int (nI x)), some (.int (nI y)), some (.int (nI (dg1 G.W G.n x))), some (.int (nI (dg1 G.W G.n y))), some (.int (nI b))] [] := by
    intro m
    induction m with
    | zero =>
      intro b hb2 hj
      have hb2 : b = G.b := by omega
      subst hb2
      refine r_iload (pc := 24) (i := 5) (tX5_firstDifference.at 14 rfl) rfl ?_
      refine r_aload_n (pc := 26) (i := 0) (tX5_firstDifference.at 15 rfl) rfl rfl ?_
      refine r_get (pc := 27) (tX5_firstDifference.at 16 rfl) gf_X5_45 (hg.1) rfl ?_
      refine r_icmp_geN (pc := 30) 75 (tX5_firstDifference.at 17 rfl) (by decide) (by omega) (by omega) (fun _ => ?_) (fun c => by omega)
      refine r_iconst (pc := 75) (w := zI (-1)) (tX5_firstDifference.at 41 rfl) (by decide) ?_
      refine r_iret (pc := 76) (tX5_firstDifference.at 42 rfl) rfl (Nat.le_of_ble_eq_true rfl) (Nat.le_of_ble_eq_true rfl) ?_
      rw [fdN, fstN_is (Nat.le_refl _) hj (Or.inl rfl), fdR, if_neg (by omega)]
      exact ⟨rfl, rfl, rfl⟩
    | succ m ih =>
      intro b hb2 hj
      have bx := hB x hx
      have w1 := wto_le (B := G.B) (x := x) (b := b) hn hx hW
      have w2 := wto_le (B := G.B) (x := y) (b := b) hn hy hW
      have d1 : dg1 G.W G.n x ≤ 54 := by unfold dg1; omega
      have d2 : dg1 G.W G.n y ≤ 54 := by unfold dg1; omega
      have p1 : wto G.W G.B G.n x b * dg1 G.W G.n y ≤ 54 * 54 := Nat.mul_le_mul (by omega) d2
      have p2 : wto G.W G.B G.n y b * dg1 G.W G.n x ≤ 54 * 54 := Nat.mul_le_mul (by omega) d1
      have nx : dfB G.W G.B G.n x y b = false → _ := fun q => ih (b + 1) (by omega) (fun j hj2 => by
        by_cases h1 : j < b
        · exact hj j h1
        · rw [show j = b by omega]
          exact q)
      refine r_iload (pc := 24) (i := 5) (tX5_firstDifference.at 14 rfl) rfl ?_
      refine r_aload_n (pc := 26) (i := 0) (tX5_firstDifference.at 15 rfl) rfl rfl ?_
      refine r_get (pc := 27) (tX5_firstDifference.at 16 rfl) gf_X5_45 (hg.1) rfl ?_
      refine r_icmp_geN (pc := 30) 75 (tX5_firstDifference.at 17 rfl) (by decide) (by omega) (by omega) (fun c => by omega) (fun _ => ?_)
      refine r_iload (pc := 33) (i := 5) (tX5_firstDifference.at 18 rfl) rfl ?_
      refine r_aload_n (pc := 35) (i := 0) (tX5_firstDifference.at 19 rfl) rfl rfl ?_
      refine r_get (pc := 36) (tX5_firstDifference.at 20 rfl) gf_X5_30 (hg.1) rfl ?_
      refine r_iload_n (pc := 39) (i := 1) (tX5_firstDifference.at 21 rfl) rfl rfl ?_
      refine r_iald (pc := 40) (tX5_firstDifference.at 22 rfl) (hg.2.2.2.2.1) (x) (rfl) (by omega) (Nat.le_of_ble_eq_true rfl) ?_
      rw [show iF G.B x = nI (G.B x) from rfl]
      refine r_icmp_eqN (pc := 41) 69 (tX5_firstDifference.at 23 rfl) (by decide) (by omega) (by omega) (fun c => ?_) (fun c => ?_)
      · first | refine r_iincN (pc := 69) (tX5_firstDifference.at 39 rfl) rfl (by decide) ?_ | refine r_iinc (pc := 69) (tX5_firstDifference.at 39 rfl) rfl rfl (by decide) ?_
        refine r_goto (pc := 72) 24 (tX5_firstDifference.at 40 rfl) (by decide) ?_
        exact nx (by unfold dfB; rw [c]; simp)
      · refine r_aload_n (pc := 44) (i := 0) (tX5_firstDifference.at 24 rfl) rfl rfl ?_
        refine r_iload_n (pc := 45) (i := 1) (tX5_firstDifference.at 25 rfl) rfl rfl ?_
        refine r_iload (pc := 46) (i := 5) (tX5_firstDifference.at 26 rfl) rfl ?_
        refine r_callS (M' := mX5_weightTo) (pc := 48) (tX5_firstDifference.at 27 rfl) ml_X5_66 rfl mw_X5_weightTo ⟨by decide, by decide⟩ (c_wto hg hn hB hx (by omega)) rfl rfl (Nat.le_of_ble_eq_true rfl) (Nat.le_of_ble_eq_true rfl) (Nat.le_of_ble_eq_true rfl) ?_
        rintro _ _ _ ⟨rfl, rfl, rfl⟩
        refine r_iload (pc := 51) (i := 4) (tX5_firstDifference.at 28 rfl) rfl ?_
        first | refine r_imulN (pc := 53) (tX5_firstDifference.at 29 rfl) ?_ | refine r_imulZ (pc := 53) (tX5_firstDifference.at 29 rfl) ?_ | refine r_imul (pc := 53) (tX5_firstDifference.at 29 rfl) ?_
        refine r_aload_n (pc := 54) (i := 0) (tX5_firstDifference.at 30 rfl) rfl rfl ?_
        refine r_iload_n (pc := 55) (i := 2) (tX5_firstDifference.at 31 rfl) rfl rfl ?_
        refine r_iload (pc := 56) (i := 5) (tX5_firstDifference.at 32 rfl) rfl ?_
        refine r_callS (M' := mX5_weightTo) (pc := 58) (tX5_firstDifference.at 33 rfl) ml_X5_66 rfl mw_X5_weightTo ⟨by decide, by decide⟩ (c_wto hg hn hB hy (by omega)) rfl rfl (Nat.le_of_ble_eq_true rfl) (Nat.le_of_ble_eq_true rfl) (Nat.le_of_ble_eq_true rfl) ?_
        rintro _ _ _ ⟨rfl, rfl, rfl⟩
        refine r_iload_n (pc := 61) (i := 3) (tX5_firstDifference.at 34 rfl) rfl rfl ?_
        first | refine r_imulN (pc := 62) (tX5_firstDifference.at 35 rfl) ?_ | refine r_imulZ (pc := 62) (tX5_firstDifference.at 35 rfl) ?_ | refine r_imul (pc := 62) (tX5_firstDifference.at 35 rfl) ?_
        refine r_icmp_eqN (pc := 63) 69 (tX5_firstDifference.at 36 rfl) (by decide) (by omega) (by omega) (fun c2 => ?_) (fun c2 => ?_)
        · first | refine r_iincN (pc := 69) (tX5_firstDifference.at 39 rfl) rfl (by decide) ?_ | refine r_iinc (pc := 69) (tX5_firstDifference.at 39 rfl) rfl rfl (by decide) ?_
          refine r_goto (pc := 72) 24 (tX5_firstDifference.at 40 rfl) (by decide) ?_
          exact nx (by unfold dfB; rw [c2]; simp)
        · refine r_iload (pc := 66) (i := 5) (tX5_firstDifference.at 37 rfl) rfl ?_
          refine r_iret (pc := 68) (tX5_firstDifference.at 38 rfl) rfl (Nat.le_of_ble_eq_true rfl) (Nat.le_of_ble_eq_true rfl) ?_
          rw [fdN, fstN_is (show b ≤ G.b by omega) hj (Or.inr (by unfold dfB; simp [c, c2])), fdR, if_pos (by omega)]
          exact ⟨rfl, rfl, rfl⟩
  exact key G.b 0 (by omega) (fun j hj => by omega)
/-- x and y are in one block, and their transitions differ -/
def pqB (W B : Nat → Nat) (n nb x y : Nat) : Bool := decide (x < y) && (decide (B x = B y) && decide (fdN W B n nb x y < nb))
def pqY (W B : Nat → Nat) (n nb x : Nat) : Nat := fstN (pqB W B n nb x) n
def pqX (W B : Nat → Nat) (n nb : Nat) : Nat := fstN (fun x => decide (pqY W B n nb x < n)) n
/-- what parted tells -/
def ptN (W B : Nat → Nat) (n nb : Nat) : Int := if pqX W B n nb < n then ((100 * pqX W B n nb + 10 * pqY W B n nb (pqX W B n nb) + fdN W B n nb (pqX W B n nb) (pqY W B n nb (pqX W B n nb)) : Nat) : Int) else -1
theorem c_firstP {v : Ev} {h : Hp} {top g q : Nat} {G : GT} (hg : isG v h g G) (hn : G.n ≤ 6) (hB : ∀ k, k < 6 → G.B k < 2147483648) (hb : G.b ≤ 6) (hW : ∀ k, k < 36 → G.W k ≤ 9) : Cal v mX5_firstParted 4 0 0 [.ref q, .ref g] h top (pR (.int (zI (ptN G.W G.B G.n G.b))) h top) noX := by
  refine Cal.ofJ (by decide +kernel) rfl (Nat.le_of_ble_eq_true rfl) fun hz0 => ?_
  refine r_ls [some (.ref q), some (.ref g), none, none, none] rfl ?_
  refine r_iconst (pc := 0) (w := nI 0) (tX5_firstParted.at 0 rfl) (by decide) ?_
  refine r_istore_n (pc := 1) (i := 2) (tX5_firstParted.at 1 rfl) rfl (by decide) ?_
  generalize hPo : pR (.int (zI (ptN G.W G.B G.n G.b))) h top = Po
  have key2 : ∀ x, x < G.n → (∀ j, j < x → ¬ pqY G.W G.B G.n G.b j < G.n) → (¬ pqY G.W G.B G.n G.b x < G.n → ∀ o3 o4, J v mX5_firstParted (rmOf 4 0 0) (KM v Po noX 0 0) top 0 0 h top 2 [some (.ref q), some (.ref g), some (.int (nI (x + 1))), o3, o4] []) →
      ∀ m y o4, y + m = G.n → x < y → (∀ j, j < y → pqB G.W G.B G.n G.b x j = false) → J v mX5_firstParted (rmOf 4 0 0) (KM v Po noX 0 0) top 0 0 h top 14 [some (.ref q), some (.ref g), some (.int (nI x)), some (.int (nI y)), o4] [] := by
    intro x hx hjx nx m
    induction m with
    | zero =>
      intro y o4 hy hxy hj
      have hy : y = G.n := by omega
      subst hy
      have e : pqY G.W G.B G.n G.b x = G.n := by rw [pqY, fstN_is (Nat.le_refl _) hj (Or.inl rfl)]
      refine r_iload_n (pc := 14) (i := 3) (tX5_firstParted.at 10 rfl) rfl rfl ?_
      refine r_aload_n (pc := 15) (i := 1) (tX5_firstParted.at 11 rfl) rfl rfl ?_
      refine r_get (pc := 16) (tX5_firstParted.at 12 rfl) gf_X5_26 (hg.1) rfl ?_
      refine r_icmp_geN (pc := 19) 69 (tX5_firstParted.at 13 rfl) (by decide) (by omega) (by omega) (fun _ => ?_) (fun c => by omega)
      first | refine r_iincN (pc := 69) (tX5_firstParted.at 42 rfl) rfl (by decide) ?_ | refine r_iinc (pc := 69) (tX5_firstParted.at 42 rfl) rfl rfl (by decide) ?_
      refine r_goto (pc := 72) 2 (tX5_firstParted.at 43 rfl) (by decide) ?_
      exact nx (by omega) _ _
    | succ m ih =>
      intro y o4 hy hxy hj
      have bx := hB x (by omega)
      have by' := hB y (by omega)
      have nx2 : pqB G.W G.B G.n G.b x y = false → ∀ o4, _ := fun q o4 => ih (y + 1) o4 (by omega) (by omega) (fun j hj2 => by
        by_cases h1 : j < y
        · exact hj j h1
        · rw [show j = y by omega]
          exact q)
      refine r_iload_n (pc := 14) (i := 3) (tX5_firstParted.at 10 rfl) rfl rfl ?_
      refine r_aload_n (pc := 15) (i := 1) (tX5_firstParted.at 11 rfl) rfl rfl ?_
      refine r_get (pc := 16) (tX5_firstParted.at 12 rfl) gf_X5_26 (hg.1) rfl ?_
      refine r_icmp_geN (pc := 19) 69 (tX5_firstParted.at 13 rfl) (by decide) (by omega) (by omega) (fun c => by omega) (fun _ => ?_)
      refine r_aload_n (pc := 22) (i := 1) (tX5_firstParted.at 14 rfl) rfl rfl ?_
      refine r_get (pc := 23) (tX5_firstParted.at 15 rfl) gf_X5_30 (hg.1) rfl ?_
      refine r_iload_n (pc := 26) (i := 2) (tX5_firstParted.at 16 rfl) rfl rfl ?_
      refine r_iald (pc := 27) (tX5_firstParted.at 17 rfl) (hg.2.2.2.2.1) (x) (rfl) (by omega) (Nat.le_of_ble_eq_true rfl) ?_
      refine r_aload_n (pc := 28) (i := 1) (tX5_firstParted.at 18 rfl) rfl rfl ?_
      refine r_get (pc := 29) (tX5_firstParted.at 19 rfl) gf_X5_30 (hg.1) rfl ?_
      refine r_iload_n (pc := 32) (i := 3) (tX5_firstParted.at 20 rfl) rfl rfl ?_
      refine r_iald (pc := 33) (tX5_firstParted.at 21 rfl) (hg.2.2.2.2.1) (y) (rfl) (by omega) (Nat.le_of_ble_eq_true rfl) ?_
      rw [show iF G.B x = nI (G.B x) from rfl, show iF G.B y = nI (G.B y) from rfl]
      refine r_icmp_neN (pc := 34) 63 (tX5_firstParted.at 22 rfl) (by decide) (by omega) (by omega) (fun c => ?_) (fun c => ?_)
      · first | refine r_iincN (pc := 63) (tX5_firstParted.at 40 rfl) rfl (by decide) ?_ | refine r_iinc (pc := 63) (tX5_firstParted.at 40 rfl) rfl rfl (by decide) ?_
        refine r_goto (pc := 66) 14 (tX5_firstParted.at 41 rfl) (by decide) ?_
        exact nx2 (by unfold pqB; simp [c]) _
      · refine r_aload_n (pc := 37) (i := 1) (tX5_firstParted.at 23 rfl) rfl rfl ?_
        refine r_iload_n (pc := 38) (i := 2) (tX5_firstParted.at 24 rfl) rfl rfl ?_
        refine r_iload_n (pc := 39) (i := 3) (tX5_firstParted.at 25 rfl) rfl rfl ?_
        refine r_callS (M' := mX5_firstDifference) (pc := 40) (tX5_firstParted.at 26 rfl) ml_X5_33 rfl mw_X5_firstDifference ⟨by decide, by decide⟩ (c_firstD hg hn hB hb hW (by omega) (by omega)) rfl rfl (Nat.le_of_ble_eq_true rfl) (Nat.le_of_ble_eq_true rfl) (Nat.le_of_ble_eq_true rfl) ?_
        rintro _ _ _ ⟨rfl, rfl, rfl⟩
        refine r_istore (pc := 43) (i := 4) (tX5_firstParted.at 27 rfl) (by decide) ?_
        refine r_iload (pc := 45) (i := 4) (tX5_firstParted.at 28 rfl) rfl ?_
        by_cases c2 : fdN G.W G.B G.n G.b x y < G.b
        · have e1 : pqY G.W G.B G.n G.b x = y := by rw [pqY, fstN_is (show y ≤ G.n by omega) hj (Or.inr (by unfold pqB; simp [hxy, c, c2]))]
          have e2 : pqX G.W G.B G.n G.b = x := by rw [pqX, fstN_is (show x ≤ G.n by omega) (fun j hj2 => by simpa using hjx j hj2) (Or.inr (by simp; omega))]
          rw [fdR, if_pos c2]
          refine r_if_ltN (pc := 47) 63 (tX5_firstParted.at 29 rfl) (by decide) (by omega) ?_
          refine r_bipush (pc := 50) (w := nI 100) (tX5_firstParted.at 30 rfl) (by decide) ?_
          refine r_iload_n (pc := 52) (i := 2) (tX5_firstParted.at 31 rfl) rfl rfl ?_
          first | refine r_imulN (pc := 53) (tX5_firstParted.at 32 rfl) ?_ | refine r_imulZ (pc := 53) (tX5_firstParted.at 32 rfl) ?_ | refine r_imul (pc := 53) (tX5_firstParted.at 32 rfl) ?_
          refine r_bipush (pc := 54) (w := nI 10) (tX5_firstParted.at 33 rfl) (by decide) ?_
          refine r_iload_n (pc := 56) (i := 3) (tX5_firstParted.at 34 rfl) rfl rfl ?_
          first | refine r_imulN (pc := 57) (tX5_firstParted.at 35 rfl) ?_ | refine r_imulZ (pc := 57) (tX5_firstParted.at 35 rfl) ?_ | refine r_imul (pc := 57) (tX5_firstParted.at 35 rfl) ?_
          first | refine r_iaddN (pc := 58) (tX5_firstParted.at 36 rfl) ?_ | refine r_iaddZ (pc := 58) (tX5_firstParted.at 36 rfl) ?_ | refine r_iadd (pc := 58) (tX5_firstParted.at 36 rfl) ?_
          refine r_iload (pc := 59) (i := 4) (tX5_firstParted.at 37 rfl) rfl ?_
          first | refine r_iaddN (pc := 61) (tX5_firstParted.at 38 rfl) ?_ | refine r_iaddZ (pc := 61) (tX5_firstParted.at 38 rfl) ?_ | refine r_iadd (pc := 61) (tX5_firstParted.at 38 rfl) ?_
          refine r_iret (pc := 62) (tX5_firstParted.at 39 rfl) rfl (Nat.le_of_ble_eq_true rfl) (Nat.le_of_ble_eq_true rfl) ?_
          subst hPo
          refine ⟨?_, rfl, rfl⟩
          rw [ptN, e2, if_pos hx, e1, zI_nat]
        · rw [fdR, if_neg c2]
          refine r_if_lt (pc := 47) 63 (tX5_firstParted.at 29 rfl) (by decide) (fun _ => ?_) (fun z => absurd (by decide) z)
          first | refine r_iincN (pc := 63) (tX5_firstParted.at 40 rfl) rfl (by decide) ?_ | refine r_iinc (pc := 63) (tX5_firstParted.at 40 rfl) rfl rfl (by decide) ?_
          refine r_goto (pc := 66) 14 (tX5_firstParted.at 41 rfl) (by decide) ?_
          exact nx2 (by unfold pqB; simp [c2]) _
  have key1 : ∀ m x o3 o4, x + m = G.n → (∀ j, j < x → ¬ pqY G.W G.B G.n G.b j < G.n) → J v mX5_firstParted (rmOf 4 0 0) (KM v Po noX 0 0) top 0 0 h top 2 [some (.ref q), some (.ref g), some (.int (nI x)), o3, o4] [] := by
    intro m
    induction m with
    | zero =>
      intro x o3 o4 hx hj
      have hx : x = G.n := by omega
      subst hx
      refine r_iload_n (pc := 2) (i := 2) (tX5_firstParted.at 2 rfl) rfl rfl ?_
      refine r_aload_n (pc := 3) (i := 1) (tX5_firstParted.at 3 rfl) rfl rfl ?_
      refine r_get (pc := 4) (tX5_firstParted.at 4 rfl) gf_X5_26 (hg.1) rfl ?_
      refine r_icmp_geN (pc := 7) 75 (tX5_firstParted.at 5 rfl) (by decide) (by omega) (by omega) (fun _ => ?_) (fun c => by omega)
      refine r_iconst (pc := 75) (w := zI (-1)) (tX5_firstParted.at 44 rfl) (by decide) ?_
      refine r_iret (pc := 76) (tX5_firstParted.at 45 rfl) rfl (Nat.le_of_ble_eq_true rfl) (Nat.le_of_ble_eq_true rfl) ?_
      subst hPo
      refine ⟨?_, rfl, rfl⟩
      rw [ptN, pqX, fstN_is (Nat.le_refl _) (fun j hj2 => by simpa using hj j hj2) (Or.inl rfl), if_neg (by omega)]
    | succ m ih =>
      intro x o3 o4 hx hj
      refine r_iload_n (pc := 2) (i := 2) (tX5_firstParted.at 2 rfl) rfl rfl ?_
      refine r_aload_n (pc := 3) (i := 1) (tX5_firstParted.at 3 rfl) rfl rfl ?_
      refine r_get (pc := 4) (tX5_firstParted.at 4 rfl) gf_X5_26 (hg.1) rfl ?_
      refine r_icmp_geN (pc := 7) 75 (tX5_firstParted.at 5 rfl) (by decide) (by omega) (by omega) (fun c => by omega) (fun _ => ?_)
      refine r_iload_n (pc := 10) (i := 2) (tX5_firstParted.at 6 rfl) rfl rfl ?_
      refine r_iconst (pc := 11) (w := nI 1) (tX5_firstParted.at 7 rfl) (by decide) ?_
      first | refine r_iaddN (pc := 12) (tX5_firstParted.at 8 rfl) ?_ | refine r_iaddZ (pc := 12) (tX5_firstParted.at 8 rfl) ?_ | refine r_iadd (pc := 12) (tX5_firstParted.at 8 rfl) ?_
      refine r_istore_n (pc := 13) (i := 3) (tX5_firstParted.at 9 rfl) rfl (by decide) ?_
      exact key2 x (by omega) hj (fun q o3 o4 => ih (x + 1) o3 o4 (by omega) (fun j hj2 => by
        by_cases h1 : j < x
        · exact hj j h1
        · rw [show j = x by omega]
          exact q)) (G.n - (x + 1)) (x + 1) _ (by omega) (by omega) (fun j hj2 => by unfold pqB; simp; omega)
  exact key1 G.n 0 _ _ (by omega) (fun j hj => by omega)
def stw (W B : Nat → Nat) (n nb x y : Nat) : Bool := decide (B x = B y) && !decide (fdN W B n nb x y < nb)
theorem c_stays {v : Ev} {h : Hp} {top g : Nat} {G : GT} (hg : isG v h g G) (hn : G.n ≤ 6) (hB : ∀ k, k < 6 → G.B k < 2147483648) (hb : G.b ≤ 6) (hW : ∀ k, k < 36 → G.W k ≤ 9) {x y : Nat} (hx : x < 6) (hy : y < 6) : Cal v mX5_staysWith 4 0 0 [.ref g, .int (nI x), .int (nI y)] h top (pR (.int (nI (Bool.toNat (stw G.W G.B G.n G.b x y)))) h top) noX := by
  have bx := hB x (by omega)
  have by' := hB y (by omega)
  refine Cal.ofJ (by decide +kernel) rfl (Nat.le_of_ble_eq_true rfl) fun hz0 => ?_
  refine r_ls [some (.ref g), some (.int (nI x)), some (.int (nI y))] rfl ?_
  refine r_aload_n (pc := 0) (i := 0) (tX5_staysWith.at 0 rfl) rfl rfl ?_
  refine r_get (pc := 1) (tX5_staysWith.at 1 rfl) gf_X5_30 (hg.1) rfl ?_
  refine r_iload_n (pc := 4) (i := 1) (tX5_staysWith.at 2 rfl) rfl rfl ?_
  refine r_iald (pc := 5) (tX5_staysWith.at 3 rfl) (hg.2.2.2.2.1) (x) (rfl) (by omega) (Nat.le_of_ble_eq_true rfl) ?_
  refine r_aload_n (pc := 6) (i := 0) (tX5_staysWith.at 4 rfl) rfl rfl ?_
  refine r_get (pc := 7) (tX5_staysWith.at 5 rfl) gf_X5_30 (hg.1) rfl ?_
  refine r_iload_n (pc := 10) (i := 2) (tX5_staysWith.at 6 rfl) rfl rfl ?_
  refine r_iald (pc := 11) (tX5_staysWith.at 7 rfl) (hg.2.2.2.2.1) (y) (rfl) (by omega) (Nat.le_of_ble_eq_true rfl) ?_
  rw [show iF G.B x = nI (G.B x) from rfl, show iF G.B y = nI (G.B y) from rfl]
  refine r_icmp_neN (pc := 12) 28 (tX5_staysWith.at 8 rfl) (by decide) (by omega) (by omega) (fun c => ?_) (fun c => ?_)
  · refine r_iconst (pc := 28) (w := nI 0) (tX5_staysWith.at 16 rfl) (by decide) ?_
    refine r_zret (pc := 29) (tX5_staysWith.at 17 rfl) rfl (rfl) (Nat.le_of_ble_eq_true rfl) (Nat.le_of_ble_eq_true rfl) ?_
    rw [show stw G.W G.B G.n G.b x y = false by unfold stw; simp [c]]
    exact ⟨rfl, rfl, rfl⟩
  · refine r_aload_n (pc := 15) (i := 0) (tX5_staysWith.at 9 rfl) rfl rfl ?_
    refine r_iload_n (pc := 16) (i := 1) (tX5_staysWith.at 10 rfl) rfl rfl ?_
    refine r_iload_n (pc := 17) (i := 2) (tX5_staysWith.at 11 rfl) rfl rfl ?_
    refine r_callS (M' := mX5_firstDifference) (pc := 18) (tX5_staysWith.at 12 rfl) ml_X5_33 rfl mw_X5_firstDifference ⟨by decide, by decide⟩ (c_firstD hg hn hB hb hW hx hy) rfl rfl (Nat.le_of_ble_eq_true rfl) (Nat.le_of_ble_eq_true rfl) (Nat.le_of_ble_eq_true rfl) ?_
    rintro _ _ _ ⟨rfl, rfl, rfl⟩
    by_cases c2 : fdN G.W G.B G.n G.b x y < G.b
    · have hlt := c2
      rw [fdR, if_pos c2]
      refine r_if_geN (pc := 21) 28 (tX5_staysWith.at 13 rfl) (by decide) (by omega) ?_
      refine r_iconst (pc := 28) (w := nI 0) (tX5_staysWith.at 16 rfl) (by decide) ?_
      refine r_zret (pc := 29) (tX5_staysWith.at 17 rfl) rfl (rfl) (Nat.le_of_ble_eq_true rfl) (Nat.le_of_ble_eq_true rfl) ?_
      rw [show stw G.W G.B G.n G.b x y = false by unfold stw; simp [c2]]
      exact ⟨rfl, rfl, rfl⟩
    · rw [fdR, if_neg c2]
      refine r_if_ge (pc := 21) 28 (tX5_staysWith.at 13 rfl) (by decide) (fun z => absurd z (by decide)) (fun _ => ?_)
      refine r_iconst (pc := 24) (w := nI 1) (tX5_staysWith.at 14 rfl) (by decide) ?_
      refine r_goto (pc := 25) 29 (tX5_staysWith.at 15 rfl) (by decide) ?_
      refine r_zret (pc := 29) (tX5_staysWith.at 17 rfl) rfl (rfl) (Nat.le_of_ble_eq_true rfl) (Nat.le_of_ble_eq_true rfl) ?_
      rw [show stw G.W G.B G.n G.b x y = true by unfold stw; simp [c2, c]]
      exact ⟨rfl, rfl, rfl⟩

