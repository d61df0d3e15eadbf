/-! ===== the law's loop ===== -/
theorem and63 (w : Int32) : ∃ n : Nat, n < 64 ∧ w &&& nI 63 = nI n := by
  refine ⟨w.toBitVec.toNat % 64, Nat.mod_lt _ (by omega), ?_⟩
  apply Int32.toBitVec_inj.mp
  apply BitVec.eq_of_toNat_eq
  rw [Int32.toBitVec_and, BitVec.toNat_and]
  show w.toBitVec.toNat &&& 63 = (BitVec.ofNat 32 (w.toBitVec.toNat % 64)).toNat
  rw [BitVec.toNat_ofNat, show (63 : Nat) = 2 ^ 6 - 1 from rfl, Nat.and_two_pow_sub_one_eq_mod]
  have : w.toBitVec.toNat % 64 < 64 := Nat.mod_lt _ (by omega)
  rw [show (2 : Nat) ^ 6 = 64 from rfl]
  omega
theorem nI_toI {n : Nat} (h : n < 64) : (nI n).toInt = n := by
  rw [← zI_nat]
  exact zI_toInt ⟨by omega, by omega⟩
theorem lcmp6 {L i : Nat} (hL : L ≤ 3072) (hi3 : i ≤ 3078) : (nI L - nI 6 < nI i) ↔ (L : Int) - 6 < i := by
  have es : nI L - nI 6 = zI ((L : Int) - 6) := by
    rw [← zI_nat, ← zI_nat, zI_sub]
    rfl
  rw [es, ← zI_nat i, zI_lt ⟨by omega, by omega⟩ ⟨by omega, by omega⟩]
set_option maxRecDepth 4000 in
theorem law_sw {v : Ev} {h : Hp} {top x b L i cells slots : Nat} {xs : Nat → Int32} {Z : CS} {S : MS} (I : Inv v h top x Z S) (hbz : b < z0 v) (hi : i + 6 ≤ L) (hL : L ≤ 3072) (hc1 : cells + 1 ≤ 601024) (hs1 : slots + 600 ≤ 7293034) (hk : lwK v b L xs x i cells slots) : J v mL_law room_1 (lwQ2 b L xs lw_Z) (z0 v) cells slots h top 38 (lwS b x i) [] := by
  refine r_aload_n (pc := 38) (i := 0) (tLwP.at 22 rfl) rfl rfl ?_
  refine r_iload (pc := 39) (i := 5) (tLwP.at 23 rfl) rfl ?_
  refine r_sld (pc := 41) (tLwP.at 24 rfl) hbz rfl (by omega) hL ?_
  refine r_bipush (pc := 42) (w := nI 63) (tLwP.at 25 rfl) (by decide) ?_
  refine r_iand (pc := 44) (tLwP.at 26 rfl) ?_
  obtain ⟨q, hq, eq⟩ := and63 (xs i)
  rw [eq]
  by_cases q0 : q = 0
  · subst q0
    exact r_swIn (pc := 45) (off := 151) 196 (tLwP.at 27 rfl) (by decide) (by decide) (by decide) (by decide) (lw_0 I hbz hi hL hc1 hs1 hk)
  by_cases q1 : q = 1
  · subst q1
    exact r_swIn (pc := 45) (off := 224) 269 (tLwP.at 27 rfl) (by decide) (by decide) (by decide) (by decide) (lw_1 I hbz hi hL hc1 hs1 hk)
  by_cases q2 : q = 2
  · subst q2
    exact r_swIn (pc := 45) (off := 280) 325 (tLwP.at 27 rfl) (by decide) (by decide) (by decide) (by decide) (lw_2 I hbz hi hL hc1 hs1 hk)
  by_cases q3 : q = 3
  · subst q3
    exact r_swIn (pc := 45) (off := 293) 338 (tLwP.at 27 rfl) (by decide) (by decide) (by decide) (by decide) (lw_3 I hbz hi hL hc1 hs1 hk)
  by_cases q4 : q = 4
  · subst q4
    exact r_swIn (pc := 45) (off := 306) 351 (tLwP.at 27 rfl) (by decide) (by decide) (by decide) (by decide) (lw_4 I hbz hi hL hc1 hs1 hk)
  by_cases q5 : q = 5
  · subst q5
    exact r_swIn (pc := 45) (off := 319) 364 (tLwP.at 27 rfl) (by decide) (by decide) (by decide) (by decide) (lw_5 I hbz hi hL hc1 hs1 hk)
  by_cases q6 : q = 6
  · subst q6
    exact r_swIn (pc := 45) (off := 387) 432 (tLwP.at 27 rfl) (by decide) (by decide) (by decide) (by decide) (lw_6 I hbz hi hL hc1 hs1 hk)
  by_cases q7 : q = 7
  · subst q7
    exact r_swIn (pc := 45) (off := 443) 488 (tLwP.at 27 rfl) (by decide) (by decide) (by decide) (by decide) (lw_7 I hbz hi hL hc1 hs1 hk)
  by_cases q8 : q = 8
  · subst q8
    exact r_swIn (pc := 45) (off := 499) 544 (tLwP.at 27 rfl) (by decide) (by decide) (by decide) (by decide) (lw_8 I hbz hi hL hc1 hs1 hk)
  by_cases q9 : q = 9
  · subst q9
    exact r_swIn (pc := 45) (off := 595) 640 (tLwP.at 27 rfl) (by decide) (by decide) (by decide) (by decide) (lw_9 I hbz hi hL hc1 hs1 hk)
  by_cases q10 : q = 10
  · subst q10
    exact r_swIn (pc := 45) (off := 690) 735 (tLwP.at 27 rfl) (by decide) (by decide) (by decide) (by decide) (lw_10 I hbz hi hL hc1 hs1 hk)
  by_cases q11 : q = 11
  · subst q11
    exact r_swIn (pc := 45) (off := 785) 830 (tLwP.at 27 rfl) (by decide) (by decide) (by decide) (by decide) (lw_11 I hbz hi hL hc1 hs1 hk)
  by_cases q12 : q = 12
  · subst q12
    exact r_swIn (pc := 45) (off := 880) 925 (tLwP.at 27 rfl) (by decide) (by decide) (by decide) (by decide) (lw_12 I hbz hi hL hc1 hs1 hk)
  by_cases q13 : q = 13
  · subst q13
    exact r_swIn (pc := 45) (off := 975) 1020 (tLwP.at 27 rfl) (by decide) (by decide) (by decide) (by decide) (lw_13 I hbz hi hL hc1 hs1 hk)
  by_cases q14 : q = 14
  · subst q14
    exact r_swIn (pc := 45) (off := 989) 1034 (tLwP.at 27 rfl) (by decide) (by decide) (by decide) (by decide) (lw_14 I hbz hi hL hc1 hs1 hk)
  by_cases q15 : q = 15
  · subst q15
    exact r_swIn (pc := 45) (off := 1002) 1047 (tLwP.at 27 rfl) (by decide) (by decide) (by decide) (by decide) (lw_15 I hbz hi hL hc1 hs1 hk)
  by_cases q16 : q = 16
  · subst q16
    exact r_swIn (pc := 45) (off := 1097) 1142 (tLwP.at 27 rfl) (by decide) (by decide) (by decide) (by decide) (lw_16 I hbz hi hL hc1 hs1 hk)
  by_cases q17 : q = 17
  · subst q17
    exact r_swIn (pc := 45) (off := 1180) 1225 (tLwP.at 27 rfl) (by decide) (by decide) (by decide) (by decide) (lw_17 I hbz hi hL hc1 hs1 hk)
  by_cases q18 : q = 18
  · subst q18
    exact r_swIn (pc := 45) (off := 1236) 1281 (tLwP.at 27 rfl) (by decide) (by decide) (by decide) (by decide) (lw_18 I hbz hi hL hc1 hs1 hk)
  by_cases q19 : q = 19
  · subst q19
    exact r_swIn (pc := 45) (off := 1249) 1294 (tLwP.at 27 rfl) (by decide) (by decide) (by decide) (by decide) (lw_19 I hbz hi hL hc1 hs1 hk)
  by_cases q20 : q = 20
  · subst q20
    exact r_swIn (pc := 45) (off := 1262) 1307 (tLwP.at 27 rfl) (by decide) (by decide) (by decide) (by decide) (lw_20 I hbz hi hL hc1 hs1 hk)
  by_cases q21 : q = 21
  · subst q21
    exact r_swIn (pc := 45) (off := 1275) 1320 (tLwP.at 27 rfl) (by decide) (by decide) (by decide) (by decide) (lw_21 I hbz hi hL hc1 hs1 hk)
  by_cases q22 : q = 22
  · subst q22
    exact r_swIn (pc := 45) (off := 1371) 1416 (tLwP.at 27 rfl) (by decide) (by decide) (by decide) (by decide) (lw_22 I hbz hi hL hc1 hs1 hk)
  by_cases q23 : q = 23
  · subst q23
    exact r_swIn (pc := 45) (off := 1466) 1511 (tLwP.at 27 rfl) (by decide) (by decide) (by decide) (by decide) (lw_23 I hbz hi hL hc1 hs1 hk)
  by_cases q24 : q = 24
  · subst q24
    exact r_swIn (pc := 45) (off := 1568) 1613 (tLwP.at 27 rfl) (by decide) (by decide) (by decide) (by decide) (lw_24 I hbz hi hL hc1 hs1 hk)
  by_cases q25 : q = 25
  · subst q25
    exact r_swIn (pc := 45) (off := 1660) 1705 (tLwP.at 27 rfl) (by decide) (by decide) (by decide) (by decide) (lw_25 I hbz hi hL hc1 hs1 hk)
  by_cases q26 : q = 26
  · subst q26
    exact r_swIn (pc := 45) (off := 1728) 1773 (tLwP.at 27 rfl) (by decide) (by decide) (by decide) (by decide) (lw_26 I hbz hi hL hc1 hs1 hk)
  by_cases q27 : q = 27
  · subst q27
    exact r_swIn (pc := 45) (off := 1808) 1853 (tLwP.at 27 rfl) (by decide) (by decide) (by decide) (by decide) (lw_27 I hbz hi hL hc1 hs1 hk)
  by_cases q28 : q = 28
  · subst q28
    exact r_swIn (pc := 45) (off := 1864) 1909 (tLwP.at 27 rfl) (by decide) (by decide) (by decide) (by decide) (lw_28 I hbz hi hL hc1 hs1 hk)
  by_cases q29 : q = 29
  · subst q29
    exact r_swIn (pc := 45) (off := 1948) 1993 (tLwP.at 27 rfl) (by decide) (by decide) (by decide) (by decide) (lw_29 I hbz hi hL hc1 hs1 hk)
  by_cases q30 : q = 30
  · subst q30
    exact r_swIn (pc := 45) (off := 2016) 2061 (tLwP.at 27 rfl) (by decide) (by decide) (by decide) (by decide) (lw_30 I hbz hi hL hc1 hs1 hk)
  by_cases q31 : q = 31
  · subst q31
    exact r_swIn (pc := 45) (off := 2072) 2117 (tLwP.at 27 rfl) (by decide) (by decide) (by decide) (by decide) (lw_31 I hbz hi hL hc1 hs1 hk)
  by_cases q32 : q = 32
  · subst q32
    exact r_swIn (pc := 45) (off := 2085) 2130 (tLwP.at 27 rfl) (by decide) (by decide) (by decide) (by decide) (lw_32 I hbz hi hL hc1 hs1 hk)
  by_cases q33 : q = 33
  · subst q33
    exact r_swIn (pc := 45) (off := 2098) 2143 (tLwP.at 27 rfl) (by decide) (by decide) (by decide) (by decide) (lw_33 I hbz hi hL hc1 hs1 hk)
  have q34 : 34 ≤ q := by omega
  refine r_swOut (pc := 45) 2157 (tLwP.at 27 rfl) (Or.inr (by rw [nI_toI hq]; omega)) (by decide) ?_
  exact r_wide (k := cells + 1) (n := slots + 600) (by omega) (by omega) (hk _ _ _ _ I)
set_option maxRecDepth 20000 in
theorem law_loop {v : Ev} {x b L : Nat} {xs : Nat → Int32} (hbz : b < z0 v) (hL : L ≤ 3072) : ∀ (n i cells slots : Nat) (h : Hp) (top : Nat) (Z : CS) (S : MS), Inv v h top x Z S → L < i + 6 * n + 6 → i ≤ 3078 → cells + n + 1 ≤ 601024 → slots + 600 * (n + 1) ≤ 7293034 → J v mL_law room_1 (lwQ2 b L xs lw_Z) (z0 v) cells slots h top 28 (lwS b x i) [] := by
  intro n
  induction n with
  | zero =>
    intro i cells slots h top Z S I hn hi3 hc hs
    refine r_iload (pc := 28) (i := 5) (tLwP.at 16 rfl) rfl ?_
    refine r_aload_n (pc := 30) (i := 0) (tLwP.at 17 rfl) rfl rfl ?_
    refine r_slen (pc := 31) (tLwP.at 18 rfl) hbz ?_
    refine r_bipush (pc := 32) (w := nI 6) (tLwP.at 19 rfl) (by decide) ?_
    refine r_isub (pc := 34) (tLwP.at 20 rfl) ?_
    refine r_icmp_gt (pc := 35) 2163 (tLwP.at 21 rfl) (by decide) (fun _ => ?_) (fun c => absurd ((lcmp6 hL hi3).mpr (by omega)) c)
    refine r_iconst (pc := 2163) (w := nI 1) (tLwE.at 2 rfl) (by decide) ?_
    exact r_lend (tLwE.at 3 rfl) (by omega) (by omega)
  | succ n ih =>
    intro i cells slots h top Z S I hn hi3 hc hs
    refine r_iload (pc := 28) (i := 5) (tLwP.at 16 rfl) rfl ?_
    refine r_aload_n (pc := 30) (i := 0) (tLwP.at 17 rfl) rfl rfl ?_
    refine r_slen (pc := 31) (tLwP.at 18 rfl) hbz ?_
    refine r_bipush (pc := 32) (w := nI 6) (tLwP.at 19 rfl) (by decide) ?_
    refine r_isub (pc := 34) (tLwP.at 20 rfl) ?_
    refine r_icmp_gt (pc := 35) 2163 (tLwP.at 21 rfl) (by decide) (fun _ => ?_) (fun c => ?_)
    · refine r_iconst (pc := 2163) (w := nI 1) (tLwE.at 2 rfl) (by decide) ?_
      exact r_lend (tLwE.at 3 rfl) (by omega) (by omega)
    have hi : i + 6 ≤ L := by
      have : ¬ ((L : Int) - 6 < i) := fun z => c ((lcmp6 hL hi3).mpr z)
      omega
    have ei : nI i + Int32.ofInt 6 = nI (i + 6) := by
      rw [← zI_nat i, show Int32.ofInt 6 = zI 6 from rfl, zI_add, ← zI_nat]
      rfl
    refine law_sw I hbz hi hL (by omega) (by omega) (fun h' top' Z' S' I' => ?_)
    refine r_iinc (pc := 2157) (tLwE.at 0 rfl) rfl ei (by decide) ?_
    refine r_goto (pc := 2160) 28 (tLwE.at 1 rfl) (by decide) ?_
    refine r_ls (lwS b x (i + 6)) rfl ?_
    exact ih (i + 6) (cells + 1) (slots + 600) h' top' Z' S' I' (by omega) (by omega) (by omega) (by omega)

