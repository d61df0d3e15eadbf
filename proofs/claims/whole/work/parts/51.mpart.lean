/-! ===== the reference: what can be lumped ===== -/
def tbM (W B : Nat → Nat) (n x b : Nat) : Nat := if degN W x n = 0 then (if B x = b then 1 else 0) else wto W B n x b
def byM (W : Nat → Nat) (n x : Nat) : Nat := if degN W x n = 0 then 1 else degN W x n
def unl (W B : Nat → Nat) (n x y b : Nat) : Bool := decide (b ≠ B x) && decide (tbM W B n x b * byM W n y ≠ tbM W B n y b * byM W n x)
theorem byM_dg1 (W : Nat → Nat) (n x : Nat) : byM W n x = dg1 W n x := by
  unfold byM dg1
  split <;> omega
theorem sN_0 {f : Nat → Nat} : ∀ n, sN f n = 0 → ∀ k, k < n → f k = 0
  | 0, _, k, hk => by omega
  | n + 1, h, k, hk => by
    rw [sN] at h
    by_cases c : k = n
    · rw [c]; omega
    · exact sN_0 n (by omega) k (by omega)
theorem wto_0 {W B : Nat → Nat} {n x b : Nat} (h : degN W x n = 0) : wto W B n x b = 0 := by
  have h1 := sN_0 n h
  have h2 : wto W B n x b ≤ n * 0 := sN_le n (fun k hk => by
    split
    · exact Nat.le_of_eq (h1 k hk)
    · omega)
  omega
theorem tbM_w {W B : Nat → Nat} {n x b : Nat} (h : b ≠ B x) : tbM W B n x b = wto W B n x b := by
  unfold tbM
  split
  · next c => rw [if_neg (fun z => h z.symm), wto_0 c]
  · rfl
theorem unl_df {W B : Nat → Nat} {n x y b : Nat} (h : B x = B y) : unl W B n x y b = dfB W B n x y b := by
  unfold unl dfB
  by_cases c : b = B x
  · simp [c]
  · rw [tbM_w c, tbM_w (by rw [← h]; exact c), byM_dg1, byM_dg1]
def stM (B : Nat → Nat) (b : Nat) : Nat → Nat
  | 0 => 0
  | x + 1 => if B x = b then stM B b x ||| 2 ^ x else stM B b x
theorem stM_lt (B : Nat → Nat) (b : Nat) : ∀ n, n ≤ 6 → stM B b n < 64
  | 0, _ => by simp [stM]
  | n + 1, h => by
    have := stM_lt B b n (by omega)
    rw [stM]
    split
    · exact bs_or_lt (n := 6) this (Nat.pow_lt_pow_right (by omega) (by omega))
    · exact this
theorem tbM_le {W B : Nat → Nat} {n x b : Nat} (hn : n ≤ 6) (hx : x < 6) (hW : ∀ k, k < 36 → W k ≤ 9) : tbM W B n x b ≤ 54 ∧ byM W n x ≤ 54 ∧ 1 ≤ byM W n x := by
  have h1 := wto_le (B := B) (b := b) hn hx hW
  have h2 := degN_le hn hx hW
  unfold tbM byM
  refine ⟨?_, ?_, ?_⟩
  · split
    · split <;> omega
    · omega
  · split <;> omega
  · split <;> omega
section
variable {v : Ev} {h : Hp} {top m : Nat} {S : MS} {G : GT} {cn : Nat} {cc : Nat → Int}
theorem rwG.lab (hg : rwG S G) {k : Nat} (hk : k < G.n) : S.rw (49 + k) = G.B k := hg.2.2.2.2.2 k hk
theorem c_mTo {x b : Nat} (hg : rwG S G) (hl : lad S G cn cc) (hn : G.n ≤ 6) (hx : x < G.n) (hb : b ≤ 100) (hB : ∀ k, k < G.n → G.B k ≤ 6) (hW : ∀ k, k < 36 → G.W k ≤ 9) : Cal v mX11_toBlock 3 0 0 [.ref m, .int (nI x), .int (nI b)] (mH v h m S) top (pR (.int (nI (tbM G.W G.B G.n x b))) (mH v h m S) top) noX := by
  have hd := degN_le (x := x) hn (by omega) hW
  have hx6 : x < 6 := by omega
  refine Cal.ofJ (by decide +kernel) rfl (Nat.le_of_ble_eq_true rfl) fun hz0 => ?_
  refine r_ls [some (.ref m), some (.int (nI x)), some (.int (nI b)), none, none] rfl ?_
  refine r_iconst (pc := 0) (w := nI 0) (tX11_toBlock.at 0 rfl) (by decide) ?_
  refine r_istore_n (pc := 1) (i := 3) (tX11_toBlock.at 1 rfl) rfl (by decide) ?_
  refine r_iconst (pc := 2) (w := nI 0) (tX11_toBlock.at 2 rfl) (by decide) ?_
  refine r_istore (pc := 3) (i := 4) (tX11_toBlock.at 3 rfl) (by decide) ?_
  refine down (n := G.n) (P := fun u => J v mX11_toBlock (rmOf 3 0 0) (KM v (pR (.int (nI (tbM G.W G.B G.n x b))) (mH v h m S) top) noX 0 0) top 0 0 (mH v h m S) top 5 [some (.ref m), some (.int (nI x)), some (.int (nI b)), some (.int (nI (wto G.W G.B u x b))), some (.int (nI u))] []) ?_ ?_ 0 (by omega)
  · refine r_iload (pc := 5) (i := 4) (tX11_toBlock.at 4 rfl) rfl ?_
    refine r_aload_n (pc := 7) (i := 0) (tX11_toBlock.at 5 rfl) rfl rfl ?_
    refine r_callV (M' := mX11_count) (pc := 8) (tX11_toBlock.at 6 rfl) ml_X11_218 rfl mw_X11_count ⟨by decide, by decide⟩ (mH_0) rfl rfl (c_mCount hg.1) rfl rfl (Nat.le_of_ble_eq_true rfl) (Nat.le_of_ble_eq_true rfl) (Nat.le_of_ble_eq_true rfl) ?_
    rintro _ _ _ ⟨rfl, rfl, rfl⟩
    rw [hg.2.1]
    refine r_icmp_geN (pc := 11) 52 (tX11_toBlock.at 7 rfl) (by decide) (by omega) (by omega) (fun _ => ?_) (fun c => by omega)
    refine r_aload_n (pc := 52) (i := 0) (tX11_toBlock.at 30 rfl) rfl rfl ?_
    refine r_get (pc := 53) (tX11_toBlock.at 31 rfl) gf_X11_29 (mH_0) rfl ?_
    refine r_iload_n (pc := 56) (i := 1) (tX11_toBlock.at 32 rfl) rfl rfl ?_
    refine r_iald (pc := 57) (tX11_toBlock.at 33 rfl) (mH_dgs) (x) (rfl) (by omega) (Nat.le_of_ble_eq_true rfl) ?_
    refine r_eq rfl (st2 := [.int (nI (degN G.W x G.n))]) (by rw [← hl.2 x hx6]; rfl) ?_
    have hBx := hB x hx
    refine r_if_neN (pc := 58) 81 (tX11_toBlock.at 34 rfl) (by decide) (by omega) (fun c => ?_) (fun c => ?_)
    · rw [tbM, if_neg c]
      refine r_iload_n (pc := 81) (i := 3) (tX11_toBlock.at 46 rfl) rfl rfl ?_
      refine r_iret (pc := 82) (tX11_toBlock.at 47 rfl) rfl (Nat.le_of_ble_eq_true rfl) (Nat.le_of_ble_eq_true rfl) ?_
      exact ⟨rfl, rfl, rfl⟩
    · rw [tbM, if_pos c]
      refine r_aload_n (pc := 61) (i := 0) (tX11_toBlock.at 35 rfl) rfl rfl ?_
      refine r_bipush (pc := 62) (w := nI 49) (tX11_toBlock.at 36 rfl) (by decide) ?_
      refine r_iload_n (pc := 64) (i := 1) (tX11_toBlock.at 37 rfl) rfl rfl ?_
      first | refine r_iaddN (pc := 65) (tX11_toBlock.at 38 rfl) ?_ | refine r_iaddZ (pc := 65) (tX11_toBlock.at 38 rfl) ?_ | refine r_iadd (pc := 65) (tX11_toBlock.at 38 rfl) ?_
      refine r_callV (M' := mX11_get) (pc := 66) (tX11_toBlock.at 39 rfl) ml_X11_61 rfl mw_X11_get ⟨by decide, by decide⟩ (mH_0) rfl rfl (c_mGet (k := 49 + x) hg.1 (by omega)) rfl rfl (Nat.le_of_ble_eq_true rfl) (Nat.le_of_ble_eq_true rfl) (Nat.le_of_ble_eq_true rfl) ?_
      rintro _ _ _ ⟨rfl, rfl, rfl⟩
      refine r_iload_n (pc := 69) (i := 2) (tX11_toBlock.at 40 rfl) rfl rfl ?_
      rw [hg.lab hx]
      refine r_icmp_neN (pc := 70) 77 (tX11_toBlock.at 41 rfl) (by decide) (by omega) (by omega) (fun c2 => ?_) (fun c2 => ?_)
      · rw [if_neg c2]
        refine r_iconst (pc := 77) (w := nI 0) (tX11_toBlock.at 44 rfl) (by decide) ?_
        refine r_goto (pc := 78) 82 (tX11_toBlock.at 45 rfl) (by decide) ?_
        refine r_iret (pc := 82) (tX11_toBlock.at 47 rfl) rfl (Nat.le_of_ble_eq_true rfl) (Nat.le_of_ble_eq_true rfl) ?_
        exact ⟨rfl, rfl, rfl⟩
      · rw [if_pos c2]
        refine r_iconst (pc := 73) (w := nI 1) (tX11_toBlock.at 42 rfl) (by decide) ?_
        refine r_goto (pc := 74) 82 (tX11_toBlock.at 43 rfl) (by decide) ?_
        refine r_iret (pc := 82) (tX11_toBlock.at 47 rfl) rfl (Nat.le_of_ble_eq_true rfl) (Nat.le_of_ble_eq_true rfl) ?_
        exact ⟨rfl, rfl, rfl⟩
  · intro u hu ih
    have hBu := hB u hu
    refine r_iload (pc := 5) (i := 4) (tX11_toBlock.at 4 rfl) rfl ?_
    refine r_aload_n (pc := 7) (i := 0) (tX11_toBlock.at 5 rfl) rfl rfl ?_
    refine r_callV (M' := mX11_count) (pc := 8) (tX11_toBlock.at 6 rfl) ml_X11_218 rfl mw_X11_count ⟨by decide, by decide⟩ (mH_0) rfl rfl (c_mCount hg.1) rfl rfl (Nat.le_of_ble_eq_true rfl) (Nat.le_of_ble_eq_true rfl) (Nat.le_of_ble_eq_true rfl) ?_
    rintro _ _ _ ⟨rfl, rfl, rfl⟩
    rw [hg.2.1]
    refine r_icmp_geN (pc := 11) 52 (tX11_toBlock.at 7 rfl) (by decide) (by omega) (by omega) (fun c => by omega) (fun _ => ?_)
    refine r_iload_n (pc := 14) (i := 3) (tX11_toBlock.at 8 rfl) rfl rfl ?_
    refine r_aload_n (pc := 15) (i := 0) (tX11_toBlock.at 9 rfl) rfl rfl ?_
    refine r_bipush (pc := 16) (w := nI 49) (tX11_toBlock.at 10 rfl) (by decide) ?_
    refine r_iload (pc := 18) (i := 4) (tX11_toBlock.at 11 rfl) rfl ?_
    first | refine r_iaddN (pc := 20) (tX11_toBlock.at 12 rfl) ?_ | refine r_iaddZ (pc := 20) (tX11_toBlock.at 12 rfl) ?_ | refine r_iadd (pc := 20) (tX11_toBlock.at 12 rfl) ?_
    refine r_callV (M' := mX11_get) (pc := 21) (tX11_toBlock.at 13 rfl) ml_X11_61 rfl mw_X11_get ⟨by decide, by decide⟩ (mH_0) rfl rfl (c_mGet (k := 49 + u) hg.1 (by omega)) rfl rfl (Nat.le_of_ble_eq_true rfl) (Nat.le_of_ble_eq_true rfl) (Nat.le_of_ble_eq_true rfl) ?_
    rintro _ _ _ ⟨rfl, rfl, rfl⟩
    refine r_iload_n (pc := 24) (i := 2) (tX11_toBlock.at 14 rfl) rfl rfl ?_
    rw [hg.lab hu]
    refine r_icmp_neN (pc := 25) 43 (tX11_toBlock.at 15 rfl) (by decide) (by omega) (by omega) (fun c => ?_) (fun c => ?_)
    · rw [show wto G.W G.B (u + 1) x b = wto G.W G.B u x b by rw [wto, sN, if_neg c]; rfl] at ih
      refine r_iconst (pc := 43) (w := nI 0) (tX11_toBlock.at 25 rfl) (by decide) ?_
      first | refine r_iaddN (pc := 44) (tX11_toBlock.at 26 rfl) ?_ | refine r_iaddZ (pc := 44) (tX11_toBlock.at 26 rfl) ?_ | refine r_iadd (pc := 44) (tX11_toBlock.at 26 rfl) ?_
      refine r_istore_n (pc := 45) (i := 3) (tX11_toBlock.at 27 rfl) rfl (by decide) ?_
      first | refine r_iincN (pc := 46) (tX11_toBlock.at 28 rfl) rfl (by decide) ?_ | refine r_iinc (pc := 46) (tX11_toBlock.at 28 rfl) rfl rfl (by decide) ?_
      refine r_goto (pc := 49) 5 (tX11_toBlock.at 29 rfl) (by decide) ?_
      exact ih
    · rw [show wto G.W G.B (u + 1) x b = wto G.W G.B u x b + G.W (x * 6 + u) by rw [wto, sN, if_pos c]; rfl] at ih
      refine r_aload_n (pc := 28) (i := 0) (tX11_toBlock.at 16 rfl) rfl rfl ?_
      refine r_get (pc := 29) (tX11_toBlock.at 17 rfl) gf_X11_23 (mH_0) rfl ?_
      refine r_bipush (pc := 32) (w := nI 6) (tX11_toBlock.at 18 rfl) (by decide) ?_
      refine r_iload_n (pc := 34) (i := 1) (tX11_toBlock.at 19 rfl) rfl rfl ?_
      first | refine r_imulN (pc := 35) (tX11_toBlock.at 20 rfl) ?_ | refine r_imulZ (pc := 35) (tX11_toBlock.at 20 rfl) ?_ | refine r_imul (pc := 35) (tX11_toBlock.at 20 rfl) ?_
      refine r_iload (pc := 36) (i := 4) (tX11_toBlock.at 21 rfl) rfl ?_
      first | refine r_iaddN (pc := 38) (tX11_toBlock.at 22 rfl) ?_ | refine r_iaddZ (pc := 38) (tX11_toBlock.at 22 rfl) ?_ | refine r_iadd (pc := 38) (tX11_toBlock.at 22 rfl) ?_
      refine r_iald (pc := 39) (tX11_toBlock.at 23 rfl) (mH_wts) (6 * x + u) (rfl) (by omega) (Nat.le_of_ble_eq_true rfl) ?_
      refine r_eq rfl (st2 := [.int (nI (G.W (x * 6 + u))), .int (nI (wto G.W G.B u x b))]) (by rw [← (hl.1 x u hx6 (by omega)).1]; rfl) ?_
      refine r_goto (pc := 40) 44 (tX11_toBlock.at 24 rfl) (by decide) ?_
      first | refine r_iaddN (pc := 44) (tX11_toBlock.at 26 rfl) ?_ | refine r_iaddZ (pc := 44) (tX11_toBlock.at 26 rfl) ?_ | refine r_iadd (pc := 44) (tX11_toBlock.at 26 rfl) ?_
      refine r_istore_n (pc := 45) (i := 3) (tX11_toBlock.at 27 rfl) rfl (by decide) ?_
      first | refine r_iincN (pc := 46) (tX11_toBlock.at 28 rfl) rfl (by decide) ?_ | refine r_iinc (pc := 46) (tX11_toBlock.at 28 rfl) rfl rfl (by decide) ?_
      refine r_goto (pc := 49) 5 (tX11_toBlock.at 29 rfl) (by decide) ?_
      exact ih
theorem c_mBy {x : Nat} (hl : lad S G cn cc) (hn : G.n ≤ 6) (hx : x < 6) (hW : ∀ k, k < 36 → G.W k ≤ 9) : Cal v mX11_by 1 0 0 [.ref m, .int (nI x)] (mH v h m S) top (pR (.int (nI (byM G.W G.n x))) (mH v h m S) top) noX := by
  have hd := degN_le (x := x) hn hx hW
  refine Cal.ofJ (by decide +kernel) rfl (Nat.le_of_ble_eq_true rfl) fun hz0 => ?_
  refine r_ls [some (.ref m), some (.int (nI x))] rfl ?_
  refine r_aload_n (pc := 0) (i := 0) (tX11_by.at 0 rfl) rfl rfl ?_
  refine r_get (pc := 1) (tX11_by.at 1 rfl) gf_X11_29 (mH_0) rfl ?_
  refine r_iload_n (pc := 4) (i := 1) (tX11_by.at 2 rfl) rfl rfl ?_
  refine r_iald (pc := 5) (tX11_by.at 3 rfl) (mH_dgs) (x) (rfl) (by omega) (Nat.le_of_ble_eq_true rfl) ?_
  refine r_eq rfl (st2 := [.int (nI (degN G.W x G.n))]) (by rw [← hl.2 x hx]; rfl) ?_
  refine r_if_neN (pc := 6) 13 (tX11_by.at 4 rfl) (by decide) (by omega) (fun c => ?_) (fun c => ?_)
  · rw [byM, if_neg c]
    refine r_aload_n (pc := 13) (i := 0) (tX11_by.at 7 rfl) rfl rfl ?_
    refine r_get (pc := 14) (tX11_by.at 8 rfl) gf_X11_29 (mH_0) rfl ?_
    refine r_iload_n (pc := 17) (i := 1) (tX11_by.at 9 rfl) rfl rfl ?_
    refine r_iald (pc := 18) (tX11_by.at 10 rfl) (mH_dgs) (x) (rfl) (by omega) (Nat.le_of_ble_eq_true rfl) ?_
    refine r_eq rfl (st2 := [.int (nI (degN G.W x G.n))]) (by rw [← hl.2 x hx]; rfl) ?_
    refine r_iret (pc := 19) (tX11_by.at 11 rfl) rfl (Nat.le_of_ble_eq_true rfl) (Nat.le_of_ble_eq_true rfl) ?_
    exact ⟨rfl, rfl, rfl⟩
  · rw [byM, if_pos c]
    refine r_iconst (pc := 9) (w := nI 1) (tX11_by.at 5 rfl) (by decide) ?_
    refine r_goto (pc := 10) 19 (tX11_by.at 6 rfl) (by decide) ?_
    refine r_iret (pc := 19) (tX11_by.at 11 rfl) rfl (Nat.le_of_ble_eq_true rfl) (Nat.le_of_ble_eq_true rfl) ?_
    exact ⟨rfl, rfl, rfl⟩
theorem c_mUnl {x y b : Nat} (hg : rwG S G) (hl : lad S G cn cc) (hn : G.n ≤ 6) (hx : x < G.n) (hy : y < G.n) (hb : b ≤ 100) (hB : ∀ k, k < G.n → G.B k ≤ 6) (hW : ∀ k, k < 36 → G.W k ≤ 9) : Cal v mX11_areUnlike 4 0 0 [.ref m, .int (nI x), .int (nI y), .int (nI b)] (mH v h m S) top (pR (.int (nI (Bool.toNat (unl G.W G.B G.n x y b)))) (mH v h m S) top) noX := by
  have hBx := hB x hx
  obtain ⟨t1, t2, -⟩ := tbM_le (B := G.B) (x := x) (b := b) hn (by omega) hW
  obtain ⟨t3, t4, -⟩ := tbM_le (B := G.B) (x := y) (b := b) hn (by omega) hW
  have p1 : tbM G.W G.B G.n x b * byM G.W G.n y ≤ 54 * 54 := Nat.mul_le_mul t1 t4
  have p2 : tbM G.W G.B G.n y b * byM G.W G.n x ≤ 54 * 54 := Nat.mul_le_mul t3 t2
  refine Cal.ofJ (by decide +kernel) rfl (Nat.le_of_ble_eq_true rfl) fun hz0 => ?_
  refine r_ls [some (.ref m), some (.int (nI x)), some (.int (nI y)), some (.int (nI b))] rfl ?_
  refine r_iload_n (pc := 0) (i := 3) (tX11_areUnlike.at 0 rfl) rfl rfl ?_
  refine r_aload_n (pc := 1) (i := 0) (tX11_areUnlike.at 1 rfl) rfl rfl ?_
  refine r_bipush (pc := 2) (w := nI 49) (tX11_areUnlike.at 2 rfl) (by decide) ?_
  refine r_iload_n (pc := 4) (i := 1) (tX11_areUnlike.at 3 rfl) rfl rfl ?_
  first | refine r_iaddN (pc := 5) (tX11_areUnlike.at 4 rfl) ?_ | refine r_iaddZ (pc := 5) (tX11_areUnlike.at 4 rfl) ?_ | refine r_iadd (pc := 5) (tX11_areUnlike.at 4 rfl) ?_
  refine r_callV (M' := mX11_get) (pc := 6) (tX11_areUnlike.at 5 rfl) ml_X11_61 rfl mw_X11_get ⟨by decide, by decide⟩ (mH_0) rfl rfl (c_mGet (k := 49 + x) hg.1 (by omega)) rfl rfl (Nat.le_of_ble_eq_true rfl) (Nat.le_of_ble_eq_true rfl) (Nat.le_of_ble_eq_true rfl) ?_
  rintro _ _ _ ⟨rfl, rfl, rfl⟩
  rw [hg.lab hx]
  refine r_icmp_eqN (pc := 9) 43 (tX11_areUnlike.at 6 rfl) (by decide) (by omega) (by omega) (fun c => ?_) (fun c => ?_)
  · refine r_iconst (pc := 43) (w := nI 0) (tX11_areUnlike.at 26 rfl) (by decide) ?_
    refine r_zret (pc := 44) (tX11_areUnlike.at 27 rfl) rfl (rfl) (Nat.le_of_ble_eq_true rfl) (Nat.le_of_ble_eq_true rfl) ?_
    rw [show unl G.W G.B G.n x y b = false by unfold unl; simp [c]]
    exact ⟨rfl, rfl, rfl⟩
  · refine r_aload_n (pc := 12) (i := 0) (tX11_areUnlike.at 7 rfl) rfl rfl ?_
    refine r_iload_n (pc := 13) (i := 1) (tX11_areUnlike.at 8 rfl) rfl rfl ?_
    refine r_iload_n (pc := 14) (i := 3) (tX11_areUnlike.at 9 rfl) rfl rfl ?_
    refine r_callV (M' := mX11_toBlock) (pc := 15) (tX11_areUnlike.at 10 rfl) ml_X11_301 rfl mw_X11_toBlock ⟨by decide, by decide⟩ (mH_0) rfl rfl (c_mTo hg hl hn hx hb hB hW) rfl rfl (Nat.le_of_ble_eq_true rfl) (Nat.le_of_ble_eq_true rfl) (Nat.le_of_ble_eq_true rfl) ?_
    rintro _ _ _ ⟨rfl, rfl, rfl⟩
    refine r_aload_n (pc := 18) (i := 0) (tX11_areUnlike.at 11 rfl) rfl rfl ?_
    refine r_iload_n (pc := 19) (i := 2) (tX11_areUnlike.at 12 rfl) rfl rfl ?_
    refine r_callV (M' := mX11_by) (pc := 20) (tX11_areUnlike.at 13 rfl) ml_X11_304 rfl mw_X11_by ⟨by decide, by decide⟩ (mH_0) rfl rfl (c_mBy hl hn (by omega) hW) rfl rfl (Nat.le_of_ble_eq_true rfl) (Nat.le_of_ble_eq_true rfl) (Nat.le_of_ble_eq_true rfl) ?_
    rintro _ _ _ ⟨rfl, rfl, rfl⟩
    first | refine r_imulN (pc := 23) (tX11_areUnlike.at 14 rfl) ?_ | refine r_imulZ (pc := 23) (tX11_areUnlike.at 14 rfl) ?_ | refine r_imul (pc := 23) (tX11_areUnlike.at 14 rfl) ?_
    refine r_aload_n (pc := 24) (i := 0) (tX11_areUnlike.at 15 rfl) rfl rfl ?_
    refine r_iload_n (pc := 25) (i := 2) (tX11_areUnlike.at 16 rfl) rfl rfl ?_
    refine r_iload_n (pc := 26) (i := 3) (tX11_areUnlike.at 17 rfl) rfl rfl ?_
    refine r_callV (M' := mX11_toBlock) (pc := 27) (tX11_areUnlike.at 18 rfl) ml_X11_301 rfl mw_X11_toBlock ⟨by decide, by decide⟩ (mH_0) rfl rfl (c_mTo hg hl hn hy hb hB hW) rfl rfl (Nat.le_of_ble_eq_true rfl) (Nat.le_of_ble_eq_true rfl) (Nat.le_of_ble_eq_true rfl) ?_
    rintro _ _ _ ⟨rfl, rfl, rfl⟩
    refine r_aload_n (pc := 30) (i := 0) (tX11_areUnlike.at 19 rfl) rfl rfl ?_
    refine r_iload_n (pc := 31) (i := 1) (tX11_areUnlike.at 20 rfl) rfl rfl ?_
    refine r_callV (M' := mX11_by) (pc := 32) (tX11_areUnlike.at 21 rfl) ml_X11_304 rfl mw_X11_by ⟨by decide, by decide⟩ (mH_0) rfl rfl (c_mBy hl hn (by omega) hW) rfl rfl (Nat.le_of_ble_eq_true rfl) (Nat.le_of_ble_eq_true rfl) (Nat.le_of_ble_eq_true rfl) ?_
    rintro _ _ _ ⟨rfl, rfl, rfl⟩
    first | refine r_imulN (pc := 35) (tX11_areUnlike.at 22 rfl) ?_ | refine r_imulZ (pc := 35) (tX11_areUnlike.at 22 rfl) ?_ | refine r_imul (pc := 35) (tX11_areUnlike.at 22 rfl) ?_
    refine r_icmp_eqN (pc := 36) 43 (tX11_areUnlike.at 23 rfl) (by decide) (by omega) (by omega) (fun c2 => ?_) (fun c2 => ?_)
    · refine r_iconst (pc := 43) (w := nI 0) (tX11_areUnlike.at 26 rfl) (by decide) ?_
      refine r_zret (pc := 44) (tX11_areUnlike.at 27 rfl) rfl (rfl) (Nat.le_of_ble_eq_true rfl) (Nat.le_of_ble_eq_true rfl) ?_
      rw [show unl G.W G.B G.n x y b = false by unfold unl; simp [c2]]
      exact ⟨rfl, rfl, rfl⟩
    · refine r_iconst (pc := 39) (w := nI 1) (tX11_areUnlike.at 24 rfl) (by decide) ?_
      refine r_goto (pc := 40) 44 (tX11_areUnlike.at 25 rfl) (by decide) ?_
      refine r_zret (pc := 44) (tX11_areUnlike.at 27 rfl) rfl (rfl) (Nat.le_of_ble_eq_true rfl) (Nat.le_of_ble_eq_true rfl) ?_
      rw [show unl G.W G.B G.n x y b = true by unfold unl; simp [c, c2]]
      exact ⟨rfl, rfl, rfl⟩
theorem bkM_cong {B B2 : Nat → Nat} : ∀ n, (∀ k, k < n → B k = B2 k) → bkM B n = bkM B2 n
  | 0, _ => rfl
  | n + 1, h => by rw [bkM, bkM, bkM_cong n (fun k hk => h k (by omega)), h n (by omega)]
theorem c_mBlk (hg : rwG S G) (hn : G.n ≤ 6) (hB : ∀ k, k < G.n → G.B k ≤ 6) : Cal v mX11_blocksNow 3 0 0 [.ref m] (mH v h m S) top (pR (.int (nI (bkM G.B G.n))) (mH v h m S) top) noX := by
  have c := c_mBlocks (v := v) (h := h) (top := top) (m := m) (S := S) hg.1 (by rw [hg.2.1]; exact hn) (fun k hk => by
    rw [hg.2.1] at hk
    rw [show S.lab k = G.B k from hg.lab hk]
    exact hB k hk)
  rw [hg.2.1, bkM_cong (B := S.lab) (B2 := G.B) G.n (fun k hk => hg.lab hk)] at c
  exact c
def pInt (v : Ev) (h : Hp) (m : Nat) (S : MS) (top : Nat) (G : GT) (cn : Nat) (cc : Nat → Int) (x : Int) : Option Value → Hp → Nat → Prop := fun r h' top' => r = some (.int (zI x)) ∧ top = top' ∧ ∃ S', h' = mH v h m S' ∧ per S S' ∧ S'.thr = S.thr ∧ lad S' G cn cc
theorem c_mParted (hr : RW S G cn cc) (hb : bkM G.B G.n = G.b) : Cal v mX11_firstParted 5 0 0 [.ref m] (mH v h m S) top (pInt v h m S top G cn cc (ptN G.W G.B G.n G.b)) noX := by
  have hn := hr.2.1.1.1
  have hW := hr.2.1.w9
  have hB : ∀ k, k < G.n → G.B k ≤ 6 := fun k hk => hr.2.1.1.2.2.2.1 k (by omega)
  have hb7 : ∀ u, u ≤ G.n → bkM G.B u ≤ 7 := by
    intro u
    induction u with
    | zero => intro _; simp [bkM]
    | succ u ih =>
      intro hu
      have h1 := ih (by omega)
      have h2 := hB u (by omega)
      rw [bkM]
      omega
  have hb8 := hb7 G.n (Nat.le_refl _)
  refine Cal.ofJ (by decide +kernel) rfl (Nat.le_of_ble_eq_true rfl) fun hz0 => ?_
  refine r_ls [some (.ref m), none, none, none] rfl ?_
  generalize hPo : pInt v h m S top G cn cc (ptN G.W G.B G.n G.b) = Po
  refine r_aload_n (pc := 0) (i := 0) (tX11_firstParted.at 0 rfl) rfl rfl ?_
  refine r_callV (M' := mX11_lays) (pc := 1) (tX11_firstParted.at 1 rfl) ml_X11_268 rfl mw_X11_lays ⟨by decide, by decide⟩ (mH_0) rfl rfl ((c_mLays hr)) rfl rfl (Nat.le_of_ble_eq_true rfl) (Nat.le_of_ble_eq_true rfl) (Nat.le_of_ble_eq_true rfl) ?_
  rintro _ _ _ ⟨rfl, rfl, S1, rfl, p1, t1, hl⟩
  have hg := p1.rwG hr.1
  have fin : ∀ z, z = ptN G.W G.B G.n G.b → Po (some (.int (zI z))) (mH v h m S1) top := by
    intro z hz
    subst hPo
    exact ⟨by rw [hz], rfl, S1, rfl, p1, t1, hl⟩
  have key2 : ∀ x, x < G.n → (∀ j, j < x → ¬ pqY G.W G.B G.n G.b j < G.n) → (¬ pqY G.W G.B G.n G.b x < G.n → ∀ o2 o3, J v mX11_firstParted (rmOf 5 0 0) (KM v Po noX 0 0) top 0 0 (mH v h m S1) top 6 [some (.ref m), some (.int (nI (x + 1))), o2, o3] []) →
      ∀ k y o3, y + k = G.n → x < y → (∀ j, j < y → pqB G.W G.B G.n G.b x j = false) → J v mX11_firstParted (rmOf 5 0 0) (KM v Po noX 0 0) top 0 0 (mH v h m S1) top 18 [some (.ref m), some (.int (nI x)), some (.int (nI y)), o3] [] := by
    intro x hx hjx nx k
    induction k with
    | zero =>
      intro y o3 hy hxy hj
      have hy : y = G.n := by omega
      subst hy
      have e : pqY G.W G.B G.n G.b x = G.n := by rw [pqY, fstN_is (Nat.le_refl _) hj (Or.inl rfl)]
      refine r_iload_n (pc := 18) (i := 2) (tX11_firstParted.at 12 rfl) rfl rfl ?_
      refine r_aload_n (pc := 19) (i := 0) (tX11_firstParted.at 13 rfl) rfl rfl ?_
      refine r_callV (M' := mX11_count) (pc := 20) (tX11_firstParted.at 14 rfl) ml_X11_218 rfl mw_X11_count ⟨by decide, by decide⟩ (mH_0) rfl rfl (c_mCount hg.1) rfl rfl (Nat.le_of_ble_eq_true rfl) (Nat.le_of_ble_eq_true rfl) (Nat.le_of_ble_eq_true rfl) ?_
      rintro _ _ _ ⟨rfl, rfl, rfl⟩
      rw [hg.2.1]
      refine r_icmp_geN (pc := 23) 89 (tX11_firstParted.at 15 rfl) (by decide) (by omega) (by omega) (fun _ => ?_) (fun c => by omega)
      first | refine r_iincN (pc := 89) (tX11_firstParted.at 53 rfl) rfl (by decide) ?_ | refine r_iinc (pc := 89) (tX11_firstParted.at 53 rfl) rfl rfl (by decide) ?_
      refine r_goto (pc := 92) 6 (tX11_firstParted.at 54 rfl) (by decide) ?_
      exact nx (by omega) _ _
    | succ k ih =>
      intro y o3 hy hxy hj
      have bx := hB x (by omega)
      have by' := hB y (by omega)
      have nx2 : pqB G.W G.B G.n G.b x y = false → ∀ o3, _ := fun q o3 => ih (y + 1) o3 (by omega) (by omega) (fun j hj2 => by
        by_cases h1 : j < y
        · exact hj j h1
        · rw [show j = y by omega]
          exact q)
      refine r_iload_n (pc := 18) (i := 2) (tX11_firstParted.at 12 rfl) rfl rfl ?_
      refine r_aload_n (pc := 19) (i := 0) (tX11_firstParted.at 13 rfl) rfl rfl ?_
      refine r_callV (M' := mX11_count) (pc := 20) (tX11_firstParted.at 14 rfl) ml_X11_218 rfl mw_X11_count ⟨by decide, by decide⟩ (mH_0) rfl rfl (c_mCount hg.1) rfl rfl (Nat.le_of_ble_eq_true rfl) (Nat.le_of_ble_eq_true rfl) (Nat.le_of_ble_eq_true rfl) ?_
      rintro _ _ _ ⟨rfl, rfl, rfl⟩
      rw [hg.2.1]
      refine r_icmp_geN (pc := 23) 89 (tX11_firstParted.at 15 rfl) (by decide) (by omega) (by omega) (fun c => by omega) (fun _ => ?_)
      refine r_iconst (pc := 26) (w := nI 0) (tX11_firstParted.at 16 rfl) (by decide) ?_
      refine r_istore_n (pc := 27) (i := 3) (tX11_firstParted.at 17 rfl) rfl (by decide) ?_
      have inner : ∀ k b, b + k = G.b → (∀ j, j < b → dfB G.W G.B G.n x y j = false ∨ G.B x ≠ G.B y) → J v mX11_firstParted (rmOf 5 0 0) (KM v Po noX 0 0) top 0 0 (mH v h m S1) top 28 [some (.ref m), some (.int (nI x)), some (.int (nI y)), some (.int (nI b))] [] := by
        intro k
        induction k with
        | zero =>
          intro b hbk hjb
          have hbk : b = G.b := by omega
          refine r_iload_n (pc := 28) (i := 3) (tX11_firstParted.at 18 rfl) rfl rfl ?_
          refine r_aload_n (pc := 29) (i := 0) (tX11_firstParted.at 19 rfl) rfl rfl ?_
          refine r_callV (M' := mX11_blocksNow) (pc := 30) (tX11_firstParted.at 20 rfl) ml_X11_307 rfl mw_X11_blocksNow ⟨by decide, by decide⟩ (mH_0) rfl rfl (c_mBlk hg hn hB) rfl rfl (Nat.le_of_ble_eq_true rfl) (Nat.le_of_ble_eq_true rfl) (Nat.le_of_ble_eq_true rfl) ?_
          rintro _ _ _ ⟨rfl, rfl, rfl⟩
          rw [hb]
          refine r_icmp_geN (pc := 33) 83 (tX11_firstParted.at 21 rfl) (by decide) (by omega) (by omega) (fun _ => ?_) (fun c => by omega)
          first | refine r_iincN (pc := 83) (tX11_firstParted.at 51 rfl) rfl (by decide) ?_ | refine r_iinc (pc := 83) (tX11_firstParted.at 51 rfl) rfl rfl (by decide) ?_
          refine r_goto (pc := 86) 18 (tX11_firstParted.at 52 rfl) (by decide) ?_
          refine nx2 ?_ _
          unfold pqB
          by_cases c : G.B x = G.B y
          · have : fdN G.W G.B G.n G.b x y = G.b := fstN_is (Nat.le_refl _) (fun j hj2 => (hjb j (by omega)).resolve_right (fun z => z c)) (Or.inl rfl)
            simp [this]
          · simp [c]
        | succ k ih3 =>
          intro b hbk hjb
          refine r_iload_n (pc := 28) (i := 3) (tX11_firstParted.at 18 rfl) rfl rfl ?_
          refine r_aload_n (pc := 29) (i := 0) (tX11_firstParted.at 19 rfl) rfl rfl ?_
          refine r_callV (M' := mX11_blocksNow) (pc := 30) (tX11_firstParted.at 20 rfl) ml_X11_307 rfl mw_X11_blocksNow ⟨by decide, by decide⟩ (mH_0) rfl rfl (c_mBlk hg hn hB) rfl rfl (Nat.le_of_ble_eq_true rfl) (Nat.le_of_ble_eq_true rfl) (Nat.le_of_ble_eq_true rfl) ?_
          rintro _ _ _ ⟨rfl, rfl, rfl⟩
          rw [hb]
          refine r_icmp_geN (pc := 33) 83 (tX11_firstParted.at 21 rfl) (by decide) (by omega) (by omega) (fun c => by omega) (fun _ => ?_)
          refine r_aload_n (pc := 36) (i := 0) (tX11_firstParted.at 22 rfl) rfl rfl ?_
          refine r_bipush (pc := 37) (w := nI 49) (tX11_firstParted.at 23 rfl) (by decide) ?_
          refine r_iload_n (pc := 39) (i := 1) (tX11_firstParted.at 24 rfl) rfl rfl ?_
          first | refine r_iaddN (pc := 40) (tX11_firstParted.at 25 rfl) ?_ | refine r_iaddZ (pc := 40) (tX11_firstParted.at 25 rfl) ?_ | refine r_iadd (pc := 40) (tX11_firstParted.at 25 rfl) ?_
          refine r_callV (M' := mX11_get) (pc := 41) (tX11_firstParted.at 26 rfl) ml_X11_61 rfl mw_X11_get ⟨by decide, by decide⟩ (mH_0) rfl rfl (c_mGet (k := 49 + x) hg.1 (by omega)) rfl rfl (Nat.le_of_ble_eq_true rfl) (Nat.le_of_ble_eq_true rfl) (Nat.le_of_ble_eq_true rfl) ?_
          rintro _ _ _ ⟨rfl, rfl, rfl⟩
          refine r_aload_n (pc := 44) (i := 0) (tX11_firstParted.at 27 rfl) rfl rfl ?_
          refine r_bipush (pc := 45) (w := nI 49) (tX11_firstParted.at 28 rfl) (by decide) ?_
          refine r_iload_n (pc := 47) (i := 2) (tX11_firstParted.at 29 rfl) rfl rfl ?_
          first | refine r_iaddN (pc := 48) (tX11_firstParted.at 30 rfl) ?_ | refine r_iaddZ (pc := 48) (tX11_firstParted.at 30 rfl) ?_ | refine r_iadd (pc := 48) (tX11_firstParted.at 30 rfl) ?_
          refine r_callV (M' := mX11_get) (pc := 49) (tX11_firstParted.at 31 rfl) ml_X11_61 rfl mw_X11_get ⟨by decide, by decide⟩ (mH_0) rfl rfl (c_mGet (k := 49 + y) hg.1 (by omega)) rfl rfl (Nat.le_of_ble_eq_true rfl) (Nat.le_of_ble_eq_true rfl) (Nat.le_of_ble_eq_true rfl) ?_
          rintro _ _ _ ⟨rfl, rfl, rfl⟩
          rw [hg.lab hx, hg.lab (show y < G.n by omega)]
          refine r_icmp_neN (pc := 52) 83 (tX11_firstParted.at 32 rfl) (by decide) (by omega) (by omega) (fun c => ?_) (fun c => ?_)
          · first | refine r_iincN (pc := 83) (tX11_firstParted.at 51 rfl) rfl (by decide) ?_ | refine r_iinc (pc := 83) (tX11_firstParted.at 51 rfl) rfl rfl (by decide) ?_
            refine r_goto (pc := 86) 18 (tX11_firstParted.at 52 rfl) (by decide) ?_
            exact nx2 (by unfold pqB; simp [c]) _
          · refine r_aload_n (pc := 55) (i := 0) (tX11_firstParted.at 33 rfl) rfl rfl ?_
            refine r_iload_n (pc := 56) (i := 1) (tX11_firstParted.at 34 rfl) rfl rfl ?_
            refine r_iload_n (pc := 57) (i := 2) (tX11_firstParted.at 35 rfl) rfl rfl ?_
            refine r_iload_n (pc := 58) (i := 3) (tX11_firstParted.at 36 rfl) rfl rfl ?_
            refine r_callV (M' := mX11_areUnlike) (pc := 59) (tX11_firstParted.at 37 rfl) ml_X11_310 rfl mw_X11_areUnlike ⟨by decide, by decide⟩ (mH_0) rfl rfl (c_mUnl hg hl hn hx (show y < G.n by omega) (show b ≤ 100 by omega) hB hW) rfl rfl (Nat.le_of_ble_eq_true rfl) (Nat.le_of_ble_eq_true rfl) (Nat.le_of_ble_eq_true rfl) ?_
            rintro _ _ _ ⟨rfl, rfl, rfl⟩
            rw [unl_df c]
            cases hd : dfB G.W G.B G.n x y b with
            | false =>
              rw [Bool.toNat_false]
              refine r_if_eqN (pc := 62) 77 (tX11_firstParted.at 38 rfl) (by decide) (by omega) (fun _ => ?_) (fun c => by omega)
              first | refine r_iincN (pc := 77) (tX11_firstParted.at 49 rfl) rfl (by decide) ?_ | refine r_iinc (pc := 77) (tX11_firstParted.at 49 rfl) rfl rfl (by decide) ?_
              refine r_goto (pc := 80) 28 (tX11_firstParted.at 50 rfl) (by decide) ?_
              exact ih3 (b + 1) (by omega) (fun j hj2 => by
                by_cases h1 : j < b
                · exact hjb j h1
                · rw [show j = b by omega]
                  exact Or.inl hd)
            | true =>
              rw [Bool.toNat_true]
              refine r_if_eqN (pc := 62) 77 (tX11_firstParted.at 38 rfl) (by decide) (by omega) (fun c => by omega) (fun _ => ?_)
              have e0 : fdN G.W G.B G.n G.b x y = b := fstN_is (by omega) (fun j hj2 => (hjb j hj2).resolve_right (fun z => z c)) (Or.inr hd)
              have e1 : pqY G.W G.B G.n G.b x = y := by rw [pqY, fstN_is (show y ≤ G.n by omega) hj (Or.inr (by unfold pqB; simp [hxy, c, e0]; omega))]
              have e2 : pqX G.W G.B G.n G.b = x := by rw [pqX, fstN_is (show x ≤ G.n by omega) (fun j hj2 => by simpa using hjx j hj2) (Or.inr (by simp; omega))]
              refine r_bipush (pc := 65) (w := nI 100) (tX11_firstParted.at 39 rfl) (by decide) ?_
              refine r_iload_n (pc := 67) (i := 1) (tX11_firstParted.at 40 rfl) rfl rfl ?_
              first | refine r_imulN (pc := 68) (tX11_firstParted.at 41 rfl) ?_ | refine r_imulZ (pc := 68) (tX11_firstParted.at 41 rfl) ?_ | refine r_imul (pc := 68) (tX11_firstParted.at 41 rfl) ?_
              refine r_bipush (pc := 69) (w := nI 10) (tX11_firstParted.at 42 rfl) (by decide) ?_
              refine r_iload_n (pc := 71) (i := 2) (tX11_firstParted.at 43 rfl) rfl rfl ?_
              first | refine r_imulN (pc := 72) (tX11_firstParted.at 44 rfl) ?_ | refine r_imulZ (pc := 72) (tX11_firstParted.at 44 rfl) ?_ | refine r_imul (pc := 72) (tX11_firstParted.at 44 rfl) ?_
              first | refine r_iaddN (pc := 73) (tX11_firstParted.at 45 rfl) ?_ | refine r_iaddZ (pc := 73) (tX11_firstParted.at 45 rfl) ?_ | refine r_iadd (pc := 73) (tX11_firstParted.at 45 rfl) ?_
              refine r_iload_n (pc := 74) (i := 3) (tX11_firstParted.at 46 rfl) rfl rfl ?_
              first | refine r_iaddN (pc := 75) (tX11_firstParted.at 47 rfl) ?_ | refine r_iaddZ (pc := 75) (tX11_firstParted.at 47 rfl) ?_ | refine r_iadd (pc := 75) (tX11_firstParted.at 47 rfl) ?_
              refine r_iret (pc := 76) (tX11_firstParted.at 48 rfl) rfl (Nat.le_of_ble_eq_true rfl) (Nat.le_of_ble_eq_true rfl) ?_
              rw [← zI_nat]
              refine fin _ ?_
              rw [ptN, e2, if_pos hx, e1, e0]
      exact inner G.b 0 (by omega) (fun j hj2 => by omega)
  have key1 : ∀ k x o2 o3, x + k = G.n → (∀ j, j < x → ¬ pqY G.W G.B G.n G.b j < G.n) → J v mX11_firstParted (rmOf 5 0 0) (KM v Po noX 0 0) top 0 0 (mH v h m S1) top 6 [some (.ref m), some (.int (nI x)), o2, o3] [] := by
    intro k
    induction k with
    | zero =>
      intro x o2 o3 hx hj
      have hx : x = G.n := by omega
      subst hx
      refine r_iload_n (pc := 6) (i := 1) (tX11_firstParted.at 4 rfl) rfl rfl ?_
      refine r_aload_n (pc := 7) (i := 0) (tX11_firstParted.at 5 rfl) rfl rfl ?_
      refine r_callV (M' := mX11_count) (pc := 8) (tX11_firstParted.at 6 rfl) ml_X11_218 rfl mw_X11_count ⟨by decide, by decide⟩ (mH_0) rfl rfl (c_mCount hg.1) rfl rfl (Nat.le_of_ble_eq_true rfl) (Nat.le_of_ble_eq_true rfl) (Nat.le_of_ble_eq_true rfl) ?_
      rintro _ _ _ ⟨rfl, rfl, rfl⟩
      rw [hg.2.1]
      refine r_icmp_geN (pc := 11) 95 (tX11_firstParted.at 7 rfl) (by decide) (by omega) (by omega) (fun _ => ?_) (fun c => by omega)
      refine r_iconst (pc := 95) (w := zI (-1)) (tX11_firstParted.at 55 rfl) (by decide) ?_
      refine r_iret (pc := 96) (tX11_firstParted.at 56 rfl) rfl (Nat.le_of_ble_eq_true rfl) (Nat.le_of_ble_eq_true rfl) ?_
      refine fin (-1) ?_
      rw [ptN, pqX, fstN_is (Nat.le_refl _) (fun j hj2 => by simpa using hj j hj2) (Or.inl rfl), if_neg (by omega)]
    | succ k ih =>
      intro x o2 o3 hx hj
      refine r_iload_n (pc := 6) (i := 1) (tX11_firstParted.at 4 rfl) rfl rfl ?_
      refine r_aload_n (pc := 7) (i := 0) (tX11_firstParted.at 5 rfl) rfl rfl ?_
      refine r_callV (M' := mX11_count) (pc := 8) (tX11_firstParted.at 6 rfl) ml_X11_218 rfl mw_X11_count ⟨by decide, by decide⟩ (mH_0) rfl rfl (c_mCount hg.1) rfl rfl (Nat.le_of_ble_eq_true rfl) (Nat.le_of_ble_eq_true rfl) (Nat.le_of_ble_eq_true rfl) ?_
      rintro _ _ _ ⟨rfl, rfl, rfl⟩
      rw [hg.2.1]
      refine r_icmp_geN (pc := 11) 95 (tX11_firstParted.at 7 rfl) (by decide) (by omega) (by omega) (fun c => by omega) (fun _ => ?_)
      refine r_iload_n (pc := 14) (i := 1) (tX11_firstParted.at 8 rfl) rfl rfl ?_
      refine r_iconst (pc := 15) (w := nI 1) (tX11_firstParted.at 9 rfl) (by decide) ?_
      first | refine r_iaddN (pc := 16) (tX11_firstParted.at 10 rfl) ?_ | refine r_iaddZ (pc := 16) (tX11_firstParted.at 10 rfl) ?_ | refine r_iadd (pc := 16) (tX11_firstParted.at 10 rfl) ?_
      refine r_istore_n (pc := 17) (i := 2) (tX11_firstParted.at 11 rfl) rfl (by decide) ?_
      exact key2 x (by omega) hj (fun q o2 o3 => ih (x + 1) o2 o3 (by omega) (fun j hj2 => by
        by_cases h1 : j < x
        · exact hj j h1
        · rw [show j = x by omega]
          exact q)) (G.n - (x + 1)) (x + 1) _ (by omega) (by omega) (fun j hj2 => by unfold pqB; simp; omega)
  refine r_iconst (pc := 4) (w := nI 0) (tX11_firstParted.at 2 rfl) (by decide) ?_
  refine r_istore_n (pc := 5) (i := 1) (tX11_firstParted.at 3 rfl) rfl (by decide) ?_
  exact key1 G.n 0 _ _ (by omega) (fun j hj => by omega)
theorem c_mFirst {b : Nat} (hg : rwG S G) (hn : G.n ≤ 6) (hB : ∀ k, k < G.n → G.B k ≤ 6) (hb : b ≤ 6) (hex : ∃ k, k < G.n ∧ G.B k = b) : Cal v mX11_firstOf 2 0 0 [.ref m, .int (nI b)] (mH v h m S) top (pR (.int (nI (fstN (fun k => decide (G.B k = b)) G.n))) (mH v h m S) top) noX := by
  refine Cal.ofJ (by decide +kernel) rfl (Nat.le_of_ble_eq_true rfl) fun hz0 => ?_
  refine r_ls [some (.ref m), some (.int (nI b)), none] rfl ?_
  refine r_iconst (pc := 0) (w := nI 0) (tX11_firstOf.at 0 rfl) (by decide) ?_
  refine r_istore_n (pc := 1) (i := 2) (tX11_firstOf.at 1 rfl) rfl (by decide) ?_
  have key : ∀ k u, u + k = G.n → (∀ j, j < u → G.B j ≠ b) → J v mX11_firstOf (rmOf 2 0 0) (KM v (pR (.int (nI (fstN (fun k => decide (G.B k = b)) G.n))) (mH v h m S) top) noX 0 0) top 0 0 (mH v h m S) top 2 [some (.ref m), some (.int (nI b)), some (.int (nI u))] [] := by
    intro k
    induction k with
    | zero =>
      intro u hu hj
      obtain ⟨k, hk, hkb⟩ := hex
      exact absurd hkb (hj k (by omega))
    | succ k ih =>
      intro u hu hj
      have hBu := hB u (by omega)
      refine r_aload_n (pc := 2) (i := 0) (tX11_firstOf.at 2 rfl) rfl rfl ?_
      refine r_bipush (pc := 3) (w := nI 49) (tX11_firstOf.at 3 rfl) (by decide) ?_
      refine r_iload_n (pc := 5) (i := 2) (tX11_firstOf.at 4 rfl) rfl rfl ?_
      first | refine r_iaddN (pc := 6) (tX11_firstOf.at 5 rfl) ?_ | refine r_iaddZ (pc := 6) (tX11_firstOf.at 5 rfl) ?_ | refine r_iadd (pc := 6) (tX11_firstOf.at 5 rfl) ?_
      refine r_callV (M' := mX11_get) (pc := 7) (tX11_firstOf.at 6 rfl) ml_X11_61 rfl mw_X11_get ⟨by decide, by decide⟩ (mH_0) rfl rfl (c_mGet (k := 49 + u) hg.1 (by omega)) rfl rfl (Nat.le_of_ble_eq_true rfl) (Nat.le_of_ble_eq_true rfl) (Nat.le_of_ble_eq_true rfl) ?_
      rintro _ _ _ ⟨rfl, rfl, rfl⟩
      refine r_iload_n (pc := 10) (i := 1) (tX11_firstOf.at 7 rfl) rfl rfl ?_
      rw [hg.lab (show u < G.n by omega)]
      refine r_icmp_eqN (pc := 11) 20 (tX11_firstOf.at 8 rfl) (by decide) (by omega) (by omega) (fun c => ?_) (fun c => ?_)
      · refine r_iload_n (pc := 20) (i := 2) (tX11_firstOf.at 11 rfl) rfl rfl ?_
        refine r_iret (pc := 21) (tX11_firstOf.at 12 rfl) rfl (Nat.le_of_ble_eq_true rfl) (Nat.le_of_ble_eq_true rfl) ?_
        rw [fstN_is (show u ≤ G.n by omega) (fun j hj2 => by simpa using hj j hj2) (Or.inr (by simpa using c))]
        exact ⟨rfl, rfl, rfl⟩
      · first | refine r_iincN (pc := 14) (tX11_firstOf.at 9 rfl) rfl (by decide) ?_ | refine r_iinc (pc := 14) (tX11_firstOf.at 9 rfl) rfl rfl (by decide) ?_
        refine r_goto (pc := 17) 2 (tX11_firstOf.at 10 rfl) (by decide) ?_
        exact ih (u + 1) (by omega) (fun j hj2 => by
          by_cases h1 : j < u
          · exact hj j h1
          · rw [show j = u by omega]
            exact c)
  exact key G.n 0 (by omega) (fun j hj => by omega)
theorem c_mSetOf {b : Nat} (hg : rwG S G) (hn : G.n ≤ 6) (hB : ∀ k, k < G.n → G.B k ≤ 6) (hb : b ≤ 6) : Cal v mX11_setOf 3 0 0 [.ref m, .int (nI b)] (mH v h m S) top (pR (.int (nI (stM G.B b G.n))) (mH v h m S) top) noX := by
  refine Cal.ofJ (by decide +kernel) rfl (Nat.le_of_ble_eq_true rfl) fun hz0 => ?_
  refine r_ls [some (.ref m), some (.int (nI b)), none, none] rfl ?_
  refine r_iconst (pc := 0) (w := nI 0) (tX11_setOf.at 0 rfl) (by decide) ?_
  refine r_istore_n (pc := 1) (i := 2) (tX11_setOf.at 1 rfl) rfl (by decide) ?_
  refine r_iconst (pc := 2) (w := nI 0) (tX11_setOf.at 2 rfl) (by decide) ?_
  refine r_istore_n (pc := 3) (i := 3) (tX11_setOf.at 3 rfl) rfl (by decide) ?_
  refine down (n := G.n) (P := fun u => J v mX11_setOf (rmOf 3 0 0) (KM v (pR (.int (nI (stM G.B b G.n))) (mH v h m S) top) noX 0 0) top 0 0 (mH v h m S) top 4 [some (.ref m), some (.int (nI b)), some (.int (nI (stM G.B b u))), some (.int (nI u))] []) ?_ ?_ 0 (by omega)
  · refine r_iload_n (pc := 4) (i := 3) (tX11_setOf.at 4 rfl) rfl rfl ?_
    refine r_aload_n (pc := 5) (i := 0) (tX11_setOf.at 5 rfl) rfl rfl ?_
    refine r_callV (M' := mX11_count) (pc := 6) (tX11_setOf.at 6 rfl) ml_X11_218 rfl mw_X11_count ⟨by decide, by decide⟩ (mH_0) rfl rfl (c_mCount hg.1) rfl rfl (Nat.le_of_ble_eq_true rfl) (Nat.le_of_ble_eq_true rfl) (Nat.le_of_ble_eq_true rfl) ?_
    rintro _ _ _ ⟨rfl, rfl, rfl⟩
    rw [hg.2.1]
    refine r_icmp_geN (pc := 9) 40 (tX11_setOf.at 7 rfl) (by decide) (by omega) (by omega) (fun _ => ?_) (fun c => by omega)
    refine r_iload_n (pc := 40) (i := 2) (tX11_setOf.at 25 rfl) rfl rfl ?_
    refine r_iret (pc := 41) (tX11_setOf.at 26 rfl) rfl (Nat.le_of_ble_eq_true rfl) (Nat.le_of_ble_eq_true rfl) ?_
    exact ⟨rfl, rfl, rfl⟩
  · intro u hu ih
    have hBu := hB u hu
    have hlt := stM_lt G.B b u (by omega)
    rw [stM] at ih
    refine r_iload_n (pc := 4) (i := 3) (tX11_setOf.at 4 rfl) rfl rfl ?_
    refine r_aload_n (pc := 5) (i := 0) (tX11_setOf.at 5 rfl) rfl rfl ?_
    refine r_callV (M' := mX11_count) (pc := 6) (tX11_setOf.at 6 rfl) ml_X11_218 rfl mw_X11_count ⟨by decide, by decide⟩ (mH_0) rfl rfl (c_mCount hg.1) rfl rfl (Nat.le_of_ble_eq_true rfl) (Nat.le_of_ble_eq_true rfl) (Nat.le_of_ble_eq_true rfl) ?_
    rintro _ _ _ ⟨rfl, rfl, rfl⟩
    rw [hg.2.1]
    refine r_icmp_geN (pc := 9) 40 (tX11_setOf.at 7 rfl) (by decide) (by omega) (by omega) (fun c => by omega) (fun _ => ?_)
    refine r_iload_n (pc := 12) (i := 2) (tX11_setOf.at 8 rfl) rfl rfl ?_
    refine r_aload_n (pc := 13) (i := 0) (tX11_setOf.at 9 rfl) rfl rfl ?_
    refine r_bipush (pc := 14) (w := nI 49) (tX11_setOf.at 10 rfl) (by decide) ?_
    refine r_iload_n (pc := 16) (i := 3) (tX11_setOf.at 11 rfl) rfl rfl ?_
    first | refine r_iaddN (pc := 17) (tX11_setOf.at 12 rfl) ?_ | refine r_iaddZ (pc := 17) (tX11_setOf.at 12 rfl) ?_ | refine r_iadd (pc := 17) (tX11_setOf.at 12 rfl) ?_
    refine r_callV (M' := mX11_get) (pc := 18) (tX11_setOf.at 13 rfl) ml_X11_61 rfl mw_X11_get ⟨by decide, by decide⟩ (mH_0) rfl rfl (c_mGet (k := 49 + u) hg.1 (by omega)) rfl rfl (Nat.le_of_ble_eq_true rfl) (Nat.le_of_ble_eq_true rfl) (Nat.le_of_ble_eq_true rfl) ?_
    rintro _ _ _ ⟨rfl, rfl, rfl⟩
    refine r_iload_n (pc := 21) (i := 1) (tX11_setOf.at 14 rfl) rfl rfl ?_
    rw [hg.lab hu]
    refine r_icmp_neN (pc := 22) 31 (tX11_setOf.at 15 rfl) (by decide) (by omega) (by omega) (fun c => ?_) (fun c => ?_)
    · rw [if_neg c] at ih
      refine r_iconst (pc := 31) (w := nI 0) (tX11_setOf.at 20 rfl) (by decide) ?_
      refine r_ior (pc := 32) (tX11_setOf.at 21 rfl) ?_
      rw [bs_or _ hlt 0 (by omega), Nat.or_zero]
      refine r_istore_n (pc := 33) (i := 2) (tX11_setOf.at 22 rfl) rfl (by decide) ?_
      first | refine r_iincN (pc := 34) (tX11_setOf.at 23 rfl) rfl (by decide) ?_ | refine r_iinc (pc := 34) (tX11_setOf.at 23 rfl) rfl rfl (by decide) ?_
      refine r_goto (pc := 37) 4 (tX11_setOf.at 24 rfl) (by decide) ?_
      exact ih
    · rw [if_pos c] at ih
      refine r_iconst (pc := 25) (w := nI 1) (tX11_setOf.at 16 rfl) (by decide) ?_
      refine r_iload_n (pc := 26) (i := 3) (tX11_setOf.at 17 rfl) rfl rfl ?_
      refine r_ishl (pc := 27) (tX11_setOf.at 18 rfl) ?_
      rw [bs_one u (by omega)]
      refine r_goto (pc := 28) 32 (tX11_setOf.at 19 rfl) (by decide) ?_
      refine r_ior (pc := 32) (tX11_setOf.at 21 rfl) ?_
      rw [bs_or _ hlt _ (p2_64 (by omega))]
      refine r_istore_n (pc := 33) (i := 2) (tX11_setOf.at 22 rfl) rfl (by decide) ?_
      first | refine r_iincN (pc := 34) (tX11_setOf.at 23 rfl) rfl (by decide) ?_ | refine r_iinc (pc := 34) (tX11_setOf.at 23 rfl) rfl rfl (by decide) ?_
      refine r_goto (pc := 37) 4 (tX11_setOf.at 24 rfl) (by decide) ?_
      exact ih
end

