/-! ===== Tokens: scanning ===== -/
def wdEq (b : Nat → Nat) (s e i : Nat) : Bool := decide (e - s = (stText i).length ∧ ∀ k, k < (stText i).length → b (s + k) = (stText i).getD k 0)
theorem sgn_eq {x y : Nat} (hx : x < 256) (hy : y < 128) : sgn x = (y : Int) ↔ x = y := by
  unfold sgn
  split <;> omega
theorem c_isWord {v : Ev} {h : Hp} {top q i s e : Nat} {t : TK} (hi : stRead i = true) (hb : ∀ k, t.1.1 k < 256) (hse : s ≤ e) (he : e ≤ 600) : Cal v mX9_isWord 5 0 0 [.ref q, .ref (oA v (i + 1)), .int (nI s), .int (nI e)] (tkH v h q t) top (pR (.int (nI (Bool.toNat (wdEq t.1.1 s e i)))) (tkH v h q t) top) noX := by
  obtain ⟨b1, b2⟩ := stText_b i (stRead_lt hi) hi
  refine Cal.ofJ (by decide +kernel) rfl (Nat.le_of_ble_eq_true rfl) fun hz0 => ?_
  refine r_ls [some (.ref q), some (.ref (oA v (i + 1))), some (.int (nI s)), some (.int (nI e)), none] rfl ?_
  refine r_iload_n (pc := 0) (i := 3) (tX9_isWord.at 0 rfl) rfl rfl ?_
  refine r_iload_n (pc := 1) (i := 2) (tX9_isWord.at 1 rfl) rfl rfl ?_
  first | refine r_isubN (pc := 2) (tX9_isWord.at 2 rfl) (by omega) ?_ | refine r_isubZ (pc := 2) (tX9_isWord.at 2 rfl) ?_ | refine r_isub (pc := 2) (tX9_isWord.at 2 rfl) ?_
  refine r_aload_n (pc := 3) (i := 1) (tX9_isWord.at 3 rfl) rfl rfl ?_
  refine r_callT (M' := mJ0_length_8abf5) (pc := 4) (tX9_isWord.at 4 rfl) ml_X9_81 rfl mw_J0_length_8abf5 ⟨by decide, by decide⟩ hi rfl (c_strLen hi) rfl rfl (Nat.le_of_ble_eq_true rfl) (Nat.le_of_ble_eq_true rfl) (Nat.le_of_ble_eq_true rfl) ?_
  rintro _ _ _ ⟨rfl, rfl, rfl⟩
  refine r_icmp_eqN (pc := 7) 12 (tX9_isWord.at 5 rfl) (by decide) (by omega) (by omega) (fun c => ?_) (fun c => ?_)
  · have key : ∀ m k, k + m = (stText i).length → (∀ j, j < k → t.1.1 (s + j) = (stText i).getD j 0) → J v mX9_isWord (rmOf 5 0 0) (KM v (pR (.int (nI (Bool.toNat (wdEq t.1.1 s e i)))) (tkH v h q t) top) noX 0 0) top 0 0 (tkH v h q t) top 15 [some (.ref q), some (.ref (oA v (i + 1))), some (.int (nI s)), some (.int (nI e)), some (.int (nI k))] [] := by
      intro m
      induction m with
      | zero =>
        intro k hk hj
        have hk : k = (stText i).length := by omega
        refine r_iload (pc := 15) (i := 4) (tX9_isWord.at 10 rfl) rfl ?_
        refine r_aload_n (pc := 17) (i := 1) (tX9_isWord.at 11 rfl) rfl rfl ?_
        refine r_callT (M' := mJ0_length_8abf5) (pc := 18) (tX9_isWord.at 12 rfl) ml_X9_81 rfl mw_J0_length_8abf5 ⟨by decide, by decide⟩ hi rfl (c_strLen hi) rfl rfl (Nat.le_of_ble_eq_true rfl) (Nat.le_of_ble_eq_true rfl) (Nat.le_of_ble_eq_true rfl) ?_
        rintro _ _ _ ⟨rfl, rfl, rfl⟩
        refine r_icmp_geN (pc := 21) 50 (tX9_isWord.at 13 rfl) (by decide) (by omega) (by omega) (fun _ => ?_) (fun c => by omega)
        refine r_iconst (pc := 50) (w := nI 1) (tX9_isWord.at 28 rfl) (by decide) ?_
        refine r_zret (pc := 51) (tX9_isWord.at 29 rfl) rfl (rfl) (Nat.le_of_ble_eq_true rfl) (Nat.le_of_ble_eq_true rfl) ?_
        rw [show wdEq t.1.1 s e i = true from decide_eq_true ⟨c, fun j hj2 => hj j (by omega)⟩]
        exact ⟨rfl, rfl, rfl⟩
      | succ m ih =>
        intro k hk hj
        have h1 := b2 k (by omega)
        have h2 := hb (s + k)
        refine r_iload (pc := 15) (i := 4) (tX9_isWord.at 10 rfl) rfl ?_
        refine r_aload_n (pc := 17) (i := 1) (tX9_isWord.at 11 rfl) rfl rfl ?_
        refine r_callT (M' := mJ0_length_8abf5) (pc := 18) (tX9_isWord.at 12 rfl) ml_X9_81 rfl mw_J0_length_8abf5 ⟨by decide, by decide⟩ hi rfl (c_strLen hi) rfl rfl (Nat.le_of_ble_eq_true rfl) (Nat.le_of_ble_eq_true rfl) (Nat.le_of_ble_eq_true rfl) ?_
        rintro _ _ _ ⟨rfl, rfl, rfl⟩
        refine r_icmp_geN (pc := 21) 50 (tX9_isWord.at 13 rfl) (by decide) (by omega) (by omega) (fun c => by omega) (fun _ => ?_)
        refine r_aload_n (pc := 24) (i := 0) (tX9_isWord.at 14 rfl) rfl rfl ?_
        refine r_get (pc := 25) (tX9_isWord.at 15 rfl) gf_X9_9 (tkH_0) rfl ?_
        refine r_iload_n (pc := 28) (i := 2) (tX9_isWord.at 16 rfl) rfl rfl ?_
        refine r_iload (pc := 29) (i := 4) (tX9_isWord.at 17 rfl) rfl ?_
        first | refine r_iaddN (pc := 31) (tX9_isWord.at 18 rfl) ?_ | refine r_iaddZ (pc := 31) (tX9_isWord.at 18 rfl) ?_ | refine r_iadd (pc := 31) (tX9_isWord.at 18 rfl) ?_
        refine r_bald (pc := 32) (tX9_isWord.at 19 rfl) (tkH_1) (s + k) (rfl) (by omega) (Nat.le_of_ble_eq_true rfl) ?_
        refine r_aload_n (pc := 33) (i := 1) (tX9_isWord.at 20 rfl) rfl rfl ?_
        refine r_iload (pc := 34) (i := 4) (tX9_isWord.at 21 rfl) rfl ?_
        rw [show bF t.1.1 (s + k) = zI (sgn (t.1.1 (s + k))) from rfl]
        refine r_callT (M' := mJ0_charAt_5068e) (pc := 36) (tX9_isWord.at 22 rfl) ml_X9_87 rfl mw_J0_charAt_5068e ⟨by decide, by decide⟩ hi rfl (c_charAt hi (j := k) (by omega)) rfl rfl (Nat.le_of_ble_eq_true rfl) (Nat.le_of_ble_eq_true rfl) (Nat.le_of_ble_eq_true rfl) ?_
        rintro _ _ _ ⟨rfl, rfl, rfl⟩
        refine r_eq rfl (st2 := [.int (zI ((stText i).getD k 0 : Nat)), .int (zI (sgn (t.1.1 (s + k))))]) (by rw [zI_nat]; rfl) ?_
        have h3 : -128 ≤ sgn (t.1.1 (s + k)) ∧ sgn (t.1.1 (s + k)) < 128 := by unfold sgn; split <;> omega
        refine r_icmp_eqZ (pc := 39) 44 (tX9_isWord.at 23 rfl) (by decide) ⟨by omega, by omega⟩ ⟨by omega, by omega⟩ (fun c2 => ?_) (fun c2 => ?_)
        · first | refine r_iincN (pc := 44) (tX9_isWord.at 26 rfl) rfl (by decide) ?_ | refine r_iinc (pc := 44) (tX9_isWord.at 26 rfl) rfl rfl (by decide) ?_
          refine r_goto (pc := 47) 15 (tX9_isWord.at 27 rfl) (by decide) ?_
          have h4 := (sgn_eq h2 (by omega)).mp c2
          exact ih (k + 1) (by omega) (fun j hj2 => by
            by_cases h5 : j < k
            · exact hj j h5
            · rw [show j = k by omega]
              exact h4)
        · refine r_iconst (pc := 42) (w := nI 0) (tX9_isWord.at 24 rfl) (by decide) ?_
          refine r_zret (pc := 43) (tX9_isWord.at 25 rfl) rfl (rfl) (Nat.le_of_ble_eq_true rfl) (Nat.le_of_ble_eq_true rfl) ?_
          rw [show wdEq t.1.1 s e i = false from decide_eq_false (fun z => c2 ((sgn_eq h2 (by omega)).mpr (z.2 k (by omega))))]
          exact ⟨rfl, rfl, rfl⟩
    refine r_iconst (pc := 12) (w := nI 0) (tX9_isWord.at 8 rfl) (by decide) ?_
    refine r_istore (pc := 13) (i := 4) (tX9_isWord.at 9 rfl) (by decide) ?_
    exact key (stText i).length 0 (by omega) (fun j hj => by omega)
  · refine r_iconst (pc := 10) (w := nI 0) (tX9_isWord.at 6 rfl) (by decide) ?_
    refine r_zret (pc := 11) (tX9_isWord.at 7 rfl) rfl (rfl) (Nat.le_of_ble_eq_true rfl) (Nat.le_of_ble_eq_true rfl) ?_
    rw [show wdEq t.1.1 s e i = false from decide_eq_false (fun z => c z.1)]
    exact ⟨rfl, rfl, rfl⟩
def kdW (b : Nat → Nat) (s e : Nat) : Nat := if wdEq b s e 1 then 258 else if wdEq b s e 2 then 259 else if wdEq b s e 3 then 260 else if wdEq b s e 4 then 261 else if wdEq b s e 5 then 262 else if wdEq b s e 6 then 263 else if wdEq b s e 7 then 264 else if wdEq b s e 8 then 265 else 266
theorem c_kdW {v : Ev} {h : Hp} {top q s e : Nat} {t : TK} (hb : ∀ k, t.1.1 k < 256) (hse : s ≤ e) (he : e ≤ 600) : Cal v mX9_kindOfWord 6 0 0 [.ref q, .int (nI s), .int (nI e)] (tkH v h q t) top (pR (.int (nI (kdW t.1.1 s e))) (tkH v h q t) top) noX := by
  unfold kdW
  refine Cal.ofJ (by decide +kernel) rfl (Nat.le_of_ble_eq_true rfl) fun hz0 => ?_
  refine r_ls [some (.ref q), some (.int (nI s)), some (.int (nI e))] rfl ?_
  refine r_aload_n (pc := 0) (i := 0) (tX9_kindOfWord.at 0 rfl) rfl rfl ?_
  refine r_ldcS 1 (tx := "walk") (pc := 1) (tX9_kindOfWord.at 1 rfl) (by decide +kernel) ?_
  refine r_iload_n (pc := 3) (i := 1) (tX9_kindOfWord.at 2 rfl) rfl rfl ?_
  refine r_iload_n (pc := 4) (i := 2) (tX9_kindOfWord.at 3 rfl) rfl rfl ?_
  refine r_callV (M' := mX9_isWord) (pc := 5) (tX9_kindOfWord.at 4 rfl) ml_X9_63 rfl mw_X9_isWord ⟨by decide, by decide⟩ (tkH_0) rfl rfl (c_isWord (i := 1) (by decide +kernel) hb hse he) rfl rfl (Nat.le_of_ble_eq_true rfl) (Nat.le_of_ble_eq_true rfl) (Nat.le_of_ble_eq_true rfl) ?_
  rintro _ _ _ ⟨rfl, rfl, rfl⟩
  have hw1 : Bool.toNat (wdEq t.1.1 s e 1) ≤ 1 := Bool.toNat_le _
  have W1 : wdEq t.1.1 s e 1 = true ∨ wdEq t.1.1 s e 1 = false := by cases wdEq t.1.1 s e 1 <;> simp
  rcases W1 with W1 | W1
  · rw [W1, if_pos rfl]
    refine r_if_eqN (pc := 8) 15 (tX9_kindOfWord.at 5 rfl) (by decide) (by decide) (fun z => absurd z (by decide)) (fun _ => ?_)
    refine r_sipush (pc := 11) (w := nI 258) (tX9_kindOfWord.at 6 rfl) (by decide) ?_
    refine r_iret (pc := 14) (tX9_kindOfWord.at 7 rfl) rfl (Nat.le_of_ble_eq_true rfl) (Nat.le_of_ble_eq_true rfl) ?_
    exact ⟨rfl, rfl, rfl⟩
  rw [W1, if_neg (by decide)]
  refine r_if_eqN (pc := 8) 15 (tX9_kindOfWord.at 5 rfl) (by decide) (by decide) (fun _ => ?_) (fun z => absurd rfl z)
  refine r_aload_n (pc := 15) (i := 0) (tX9_kindOfWord.at 8 rfl) rfl rfl ?_
  refine r_ldcS 2 (tx := "edge") (pc := 16) (tX9_kindOfWord.at 9 rfl) (by decide +kernel) ?_
  refine r_iload_n (pc := 18) (i := 1) (tX9_kindOfWord.at 10 rfl) rfl rfl ?_
  refine r_iload_n (pc := 19) (i := 2) (tX9_kindOfWord.at 11 rfl) rfl rfl ?_
  refine r_callV (M' := mX9_isWord) (pc := 20) (tX9_kindOfWord.at 12 rfl) ml_X9_63 rfl mw_X9_isWord ⟨by decide, by decide⟩ (tkH_0) rfl rfl (c_isWord (i := 2) (by decide +kernel) hb hse he) rfl rfl (Nat.le_of_ble_eq_true rfl) (Nat.le_of_ble_eq_true rfl) (Nat.le_of_ble_eq_true rfl) ?_
  rintro _ _ _ ⟨rfl, rfl, rfl⟩
  have hw2 : Bool.toNat (wdEq t.1.1 s e 2) ≤ 1 := Bool.toNat_le _
  have W2 : wdEq t.1.1 s e 2 = true ∨ wdEq t.1.1 s e 2 = false := by cases wdEq t.1.1 s e 2 <;> simp
  rcases W2 with W2 | W2
  · rw [W2, if_pos rfl]
    refine r_if_eqN (pc := 23) 30 (tX9_kindOfWord.at 13 rfl) (by decide) (by decide) (fun z => absurd z (by decide)) (fun _ => ?_)
    refine r_sipush (pc := 26) (w := nI 259) (tX9_kindOfWord.at 14 rfl) (by decide) ?_
    refine r_iret (pc := 29) (tX9_kindOfWord.at 15 rfl) rfl (Nat.le_of_ble_eq_true rfl) (Nat.le_of_ble_eq_true rfl) ?_
    exact ⟨rfl, rfl, rfl⟩
  rw [W2, if_neg (by decide)]
  refine r_if_eqN (pc := 23) 30 (tX9_kindOfWord.at 13 rfl) (by decide) (by decide) (fun _ => ?_) (fun z => absurd rfl z)
  refine r_aload_n (pc := 30) (i := 0) (tX9_kindOfWord.at 16 rfl) rfl rfl ?_
  refine r_ldcS 3 (tx := "absorb") (pc := 31) (tX9_kindOfWord.at 17 rfl) (by decide +kernel) ?_
  refine r_iload_n (pc := 33) (i := 1) (tX9_kindOfWord.at 18 rfl) rfl rfl ?_
  refine r_iload_n (pc := 34) (i := 2) (tX9_kindOfWord.at 19 rfl) rfl rfl ?_
  refine r_callV (M' := mX9_isWord) (pc := 35) (tX9_kindOfWord.at 20 rfl) ml_X9_63 rfl mw_X9_isWord ⟨by decide, by decide⟩ (tkH_0) rfl rfl (c_isWord (i := 3) (by decide +kernel) hb hse he) rfl rfl (Nat.le_of_ble_eq_true rfl) (Nat.le_of_ble_eq_true rfl) (Nat.le_of_ble_eq_true rfl) ?_
  rintro _ _ _ ⟨rfl, rfl, rfl⟩
  have hw3 : Bool.toNat (wdEq t.1.1 s e 3) ≤ 1 := Bool.toNat_le _
  have W3 : wdEq t.1.1 s e 3 = true ∨ wdEq t.1.1 s e 3 = false := by cases wdEq t.1.1 s e 3 <;> simp
  rcases W3 with W3 | W3
  · rw [W3, if_pos rfl]
    refine r_if_eqN (pc := 38) 45 (tX9_kindOfWord.at 21 rfl) (by decide) (by decide) (fun z => absurd z (by decide)) (fun _ => ?_)
    refine r_sipush (pc := 41) (w := nI 260) (tX9_kindOfWord.at 22 rfl) (by decide) ?_
    refine r_iret (pc := 44) (tX9_kindOfWord.at 23 rfl) rfl (Nat.le_of_ble_eq_true rfl) (Nat.le_of_ble_eq_true rfl) ?_
    exact ⟨rfl, rfl, rfl⟩
  rw [W3, if_neg (by decide)]
  refine r_if_eqN (pc := 38) 45 (tX9_kindOfWord.at 21 rfl) (by decide) (by decide) (fun _ => ?_) (fun z => absurd rfl z)
  refine r_aload_n (pc := 45) (i := 0) (tX9_kindOfWord.at 24 rfl) rfl rfl ?_
  refine r_ldcS 4 (tx := "join") (pc := 46) (tX9_kindOfWord.at 25 rfl) (by decide +kernel) ?_
  refine r_iload_n (pc := 48) (i := 1) (tX9_kindOfWord.at 26 rfl) rfl rfl ?_
  refine r_iload_n (pc := 49) (i := 2) (tX9_kindOfWord.at 27 rfl) rfl rfl ?_
  refine r_callV (M' := mX9_isWord) (pc := 50) (tX9_kindOfWord.at 28 rfl) ml_X9_63 rfl mw_X9_isWord ⟨by decide, by decide⟩ (tkH_0) rfl rfl (c_isWord (i := 4) (by decide +kernel) hb hse he) rfl rfl (Nat.le_of_ble_eq_true rfl) (Nat.le_of_ble_eq_true rfl) (Nat.le_of_ble_eq_true rfl) ?_
  rintro _ _ _ ⟨rfl, rfl, rfl⟩
  have hw4 : Bool.toNat (wdEq t.1.1 s e 4) ≤ 1 := Bool.toNat_le _
  have W4 : wdEq t.1.1 s e 4 = true ∨ wdEq t.1.1 s e 4 = false := by cases wdEq t.1.1 s e 4 <;> simp
  rcases W4 with W4 | W4
  · rw [W4, if_pos rfl]
    refine r_if_eqN (pc := 53) 60 (tX9_kindOfWord.at 29 rfl) (by decide) (by decide) (fun z => absurd z (by decide)) (fun _ => ?_)
    refine r_sipush (pc := 56) (w := nI 261) (tX9_kindOfWord.at 30 rfl) (by decide) ?_
    refine r_iret (pc := 59) (tX9_kindOfWord.at 31 rfl) rfl (Nat.le_of_ble_eq_true rfl) (Nat.le_of_ble_eq_true rfl) ?_
    exact ⟨rfl, rfl, rfl⟩
  rw [W4, if_neg (by decide)]
  refine r_if_eqN (pc := 53) 60 (tX9_kindOfWord.at 29 rfl) (by decide) (by decide) (fun _ => ?_) (fun z => absurd rfl z)
  refine r_aload_n (pc := 60) (i := 0) (tX9_kindOfWord.at 32 rfl) rfl rfl ?_
  refine r_ldcS 5 (tx := "cost") (pc := 61) (tX9_kindOfWord.at 33 rfl) (by decide +kernel) ?_
  refine r_iload_n (pc := 63) (i := 1) (tX9_kindOfWord.at 34 rfl) rfl rfl ?_
  refine r_iload_n (pc := 64) (i := 2) (tX9_kindOfWord.at 35 rfl) rfl rfl ?_
  refine r_callV (M' := mX9_isWord) (pc := 65) (tX9_kindOfWord.at 36 rfl) ml_X9_63 rfl mw_X9_isWord ⟨by decide, by decide⟩ (tkH_0) rfl rfl (c_isWord (i := 5) (by decide +kernel) hb hse he) rfl rfl (Nat.le_of_ble_eq_true rfl) (Nat.le_of_ble_eq_true rfl) (Nat.le_of_ble_eq_true rfl) ?_
  rintro _ _ _ ⟨rfl, rfl, rfl⟩
  have hw5 : Bool.toNat (wdEq t.1.1 s e 5) ≤ 1 := Bool.toNat_le _
  have W5 : wdEq t.1.1 s e 5 = true ∨ wdEq t.1.1 s e 5 = false := by cases wdEq t.1.1 s e 5 <;> simp
  rcases W5 with W5 | W5
  · rw [W5, if_pos rfl]
    refine r_if_eqN (pc := 68) 75 (tX9_kindOfWord.at 37 rfl) (by decide) (by decide) (fun z => absurd z (by decide)) (fun _ => ?_)
    refine r_sipush (pc := 71) (w := nI 262) (tX9_kindOfWord.at 38 rfl) (by decide) ?_
    refine r_iret (pc := 74) (tX9_kindOfWord.at 39 rfl) rfl (Nat.le_of_ble_eq_true rfl) (Nat.le_of_ble_eq_true rfl) ?_
    exact ⟨rfl, rfl, rfl⟩
  rw [W5, if_neg (by decide)]
  refine r_if_eqN (pc := 68) 75 (tX9_kindOfWord.at 37 rfl) (by decide) (by decide) (fun _ => ?_) (fun z => absurd rfl z)
  refine r_aload_n (pc := 75) (i := 0) (tX9_kindOfWord.at 40 rfl) rfl rfl ?_
  refine r_ldcS 6 (tx := "weight") (pc := 76) (tX9_kindOfWord.at 41 rfl) (by decide +kernel) ?_
  refine r_iload_n (pc := 78) (i := 1) (tX9_kindOfWord.at 42 rfl) rfl rfl ?_
  refine r_iload_n (pc := 79) (i := 2) (tX9_kindOfWord.at 43 rfl) rfl rfl ?_
  refine r_callV (M' := mX9_isWord) (pc := 80) (tX9_kindOfWord.at 44 rfl) ml_X9_63 rfl mw_X9_isWord ⟨by decide, by decide⟩ (tkH_0) rfl rfl (c_isWord (i := 6) (by decide +kernel) hb hse he) rfl rfl (Nat.le_of_ble_eq_true rfl) (Nat.le_of_ble_eq_true rfl) (Nat.le_of_ble_eq_true rfl) ?_
  rintro _ _ _ ⟨rfl, rfl, rfl⟩
  have hw6 : Bool.toNat (wdEq t.1.1 s e 6) ≤ 1 := Bool.toNat_le _
  have W6 : wdEq t.1.1 s e 6 = true ∨ wdEq t.1.1 s e 6 = false := by cases wdEq t.1.1 s e 6 <;> simp
  rcases W6 with W6 | W6
  · rw [W6, if_pos rfl]
    refine r_if_eqN (pc := 83) 90 (tX9_kindOfWord.at 45 rfl) (by decide) (by decide) (fun z => absurd z (by decide)) (fun _ => ?_)
    refine r_sipush (pc := 86) (w := nI 263) (tX9_kindOfWord.at 46 rfl) (by decide) ?_
    refine r_iret (pc := 89) (tX9_kindOfWord.at 47 rfl) rfl (Nat.le_of_ble_eq_true rfl) (Nat.le_of_ble_eq_true rfl) ?_
    exact ⟨rfl, rfl, rfl⟩
  rw [W6, if_neg (by decide)]
  refine r_if_eqN (pc := 83) 90 (tX9_kindOfWord.at 45 rfl) (by decide) (by decide) (fun _ => ?_) (fun z => absurd rfl z)
  refine r_aload_n (pc := 90) (i := 0) (tX9_kindOfWord.at 48 rfl) rfl rfl ?_
  refine r_ldcS 7 (tx := "from") (pc := 91) (tX9_kindOfWord.at 49 rfl) (by decide +kernel) ?_
  refine r_iload_n (pc := 93) (i := 1) (tX9_kindOfWord.at 50 rfl) rfl rfl ?_
  refine r_iload_n (pc := 94) (i := 2) (tX9_kindOfWord.at 51 rfl) rfl rfl ?_
  refine r_callV (M' := mX9_isWord) (pc := 95) (tX9_kindOfWord.at 52 rfl) ml_X9_63 rfl mw_X9_isWord ⟨by decide, by decide⟩ (tkH_0) rfl rfl (c_isWord (i := 7) (by decide +kernel) hb hse he) rfl rfl (Nat.le_of_ble_eq_true rfl) (Nat.le_of_ble_eq_true rfl) (Nat.le_of_ble_eq_true rfl) ?_
  rintro _ _ _ ⟨rfl, rfl, rfl⟩
  have hw7 : Bool.toNat (wdEq t.1.1 s e 7) ≤ 1 := Bool.toNat_le _
  have W7 : wdEq t.1.1 s e 7 = true ∨ wdEq t.1.1 s e 7 = false := by cases wdEq t.1.1 s e 7 <;> simp
  rcases W7 with W7 | W7
  · rw [W7, if_pos rfl]
    refine r_if_eqN (pc := 98) 105 (tX9_kindOfWord.at 53 rfl) (by decide) (by decide) (fun z => absurd z (by decide)) (fun _ => ?_)
    refine r_sipush (pc := 101) (w := nI 264) (tX9_kindOfWord.at 54 rfl) (by decide) ?_
    refine r_iret (pc := 104) (tX9_kindOfWord.at 55 rfl) rfl (Nat.le_of_ble_eq_true rfl) (Nat.le_of_ble_eq_true rfl) ?_
    exact ⟨rfl, rfl, rfl⟩
  rw [W7, if_neg (by decide)]
  refine r_if_eqN (pc := 98) 105 (tX9_kindOfWord.at 53 rfl) (by decide) (by decide) (fun _ => ?_) (fun z => absurd rfl z)
  refine r_aload_n (pc := 105) (i := 0) (tX9_kindOfWord.at 56 rfl) rfl rfl ?_
  refine r_ldcS 8 (tx := "to") (pc := 106) (tX9_kindOfWord.at 57 rfl) (by decide +kernel) ?_
  refine r_iload_n (pc := 108) (i := 1) (tX9_kindOfWord.at 58 rfl) rfl rfl ?_
  refine r_iload_n (pc := 109) (i := 2) (tX9_kindOfWord.at 59 rfl) rfl rfl ?_
  refine r_callV (M' := mX9_isWord) (pc := 110) (tX9_kindOfWord.at 60 rfl) ml_X9_63 rfl mw_X9_isWord ⟨by decide, by decide⟩ (tkH_0) rfl rfl (c_isWord (i := 8) (by decide +kernel) hb hse he) rfl rfl (Nat.le_of_ble_eq_true rfl) (Nat.le_of_ble_eq_true rfl) (Nat.le_of_ble_eq_true rfl) ?_
  rintro _ _ _ ⟨rfl, rfl, rfl⟩
  have hw8 : Bool.toNat (wdEq t.1.1 s e 8) ≤ 1 := Bool.toNat_le _
  have W8 : wdEq t.1.1 s e 8 = true ∨ wdEq t.1.1 s e 8 = false := by cases wdEq t.1.1 s e 8 <;> simp
  rcases W8 with W8 | W8
  · rw [W8, if_pos rfl]
    refine r_if_eqN (pc := 113) 122 (tX9_kindOfWord.at 61 rfl) (by decide) (by decide) (fun z => absurd z (by decide)) (fun _ => ?_)
    refine r_sipush (pc := 116) (w := nI 265) (tX9_kindOfWord.at 62 rfl) (by decide) ?_
    refine r_goto (pc := 119) 125 (tX9_kindOfWord.at 63 rfl) (by decide) ?_
    refine r_iret (pc := 125) (tX9_kindOfWord.at 65 rfl) rfl (Nat.le_of_ble_eq_true rfl) (Nat.le_of_ble_eq_true rfl) ?_
    exact ⟨rfl, rfl, rfl⟩
  rw [W8, if_neg (by decide)]
  refine r_if_eqN (pc := 113) 122 (tX9_kindOfWord.at 61 rfl) (by decide) (by decide) (fun _ => ?_) (fun z => absurd rfl z)
  refine r_sipush (pc := 122) (w := nI 266) (tX9_kindOfWord.at 64 rfl) (by decide) ?_
  refine r_iret (pc := 125) (tX9_kindOfWord.at 65 rfl) rfl (Nat.le_of_ble_eq_true rfl) (Nat.le_of_ble_eq_true rfl) ?_
  exact ⟨rfl, rfl, rfl⟩
def numA (b : Nat → Nat) (a : Nat) : Nat → Nat
  | 0 => 0
  | k + 1 => min 10000 (numA b a k * 10 + b (a + k) - 48)
theorem numA_le (b : Nat → Nat) (a : Nat) : ∀ k, numA b a k ≤ 10000
  | 0 => by simp [numA]
  | k + 1 => by rw [numA]; omega
def dgN (b : Nat → Nat) (len a : Nat) : Nat := fstN (fun j => !isDg (b (a + j))) (len - a)
def ltN (b : Nat → Nat) (len a : Nat) : Nat := fstN (fun j => !isLt (b (a + j))) (len - a)
theorem isDg_b {x : Nat} (h : isDg x = true) : 48 ≤ x ∧ x ≤ 57 := by unfold isDg at h; simpa using h
theorem c_scanN {v : Ev} {h : Hp} {top q a len : Nat} {t : TK} (hb : ∀ k, t.1.1 k < 256) (hal : a ≤ len) (hl : len ≤ 600) (hc : t.2.2 < 601) : Cal v mX9_scanNumber 3 0 0 [.ref q, .int (nI a), .int (nI len)] (tkH v h q t) top (fun r h' top' => r = some (.int (nI (a + dgN t.1.1 len a))) ∧ h' = tkH v h q (t.add 257 a (numA t.1.1 a (dgN t.1.1 len a))) ∧ top = top') noX := by
  refine Cal.ofJ (by decide +kernel) rfl (Nat.le_of_ble_eq_true rfl) fun hz0 => ?_
  refine r_ls [some (.ref q), some (.int (nI a)), some (.int (nI len)), none, none] rfl ?_
  generalize hPo : (fun (r : Option Value) (h' : Hp) (top' : Nat) => r = some (.int (nI (a + dgN t.1.1 len a))) ∧ h' = tkH v h q (t.add 257 a (numA t.1.1 a (dgN t.1.1 len a))) ∧ top = top') = Po
  have fin : ∀ k, dgN t.1.1 len a = k → k ≤ 600 → J v mX9_scanNumber (rmOf 3 0 0) (KM v Po noX 0 0) top 0 0 (tkH v h q t) top 52 [some (.ref q), some (.int (nI a)), some (.int (nI len)), some (.int (nI (numA t.1.1 a k))), some (.int (nI (a + k)))] [] := by
    intro k hk hk2
    refine r_aload_n (pc := 52) (i := 0) (tX9_scanNumber.at 28 rfl) rfl rfl ?_
    refine r_sipush (pc := 53) (w := zI 257) (tX9_scanNumber.at 29 rfl) (by decide) ?_
    refine r_iload_n (pc := 56) (i := 1) (tX9_scanNumber.at 30 rfl) rfl rfl ?_
    refine r_iload_n (pc := 57) (i := 3) (tX9_scanNumber.at 31 rfl) rfl rfl ?_
    refine r_callV (M' := mX9_put) (pc := 58) (tX9_scanNumber.at 32 rfl) ml_X9_41 rfl mw_X9_put ⟨by decide, by decide⟩ (tkH_0) rfl rfl (c_tkPut (k := 257) hc) rfl rfl (Nat.le_of_ble_eq_true rfl) (Nat.le_of_ble_eq_true rfl) (Nat.le_of_ble_eq_true rfl) ?_
    rintro _ _ _ ⟨rfl, rfl, rfl⟩
    refine r_iload (pc := 61) (i := 4) (tX9_scanNumber.at 33 rfl) rfl ?_
    refine r_iret (pc := 63) (tX9_scanNumber.at 34 rfl) rfl (Nat.le_of_ble_eq_true rfl) (Nat.le_of_ble_eq_true rfl) ?_
    subst hPo
    subst hk
    exact ⟨rfl, rfl, rfl⟩
  have key : ∀ m k, k + m = len - a → (∀ j, j < k → isDg (t.1.1 (a + j)) = true) → J v mX9_scanNumber (rmOf 3 0 0) (KM v Po noX 0 0) top 0 0 (tkH v h q t) top 5 [some (.ref q), some (.int (nI a)), some (.int (nI len)), some (.int (nI (numA t.1.1 a k))), some (.int (nI (a + k)))] [] := by
    intro m
    induction m with
    | zero =>
      intro k hk hj
      refine r_iload (pc := 5) (i := 4) (tX9_scanNumber.at 4 rfl) rfl ?_
      refine r_iload_n (pc := 7) (i := 2) (tX9_scanNumber.at 5 rfl) rfl rfl ?_
      refine r_icmp_geN (pc := 8) 52 (tX9_scanNumber.at 6 rfl) (by decide) (by omega) (by omega) (fun _ => ?_) (fun c => by omega)
      exact fin k (fstN_is (by omega) (fun j hj2 => by simp [hj j hj2]) (Or.inl (by omega))) (by omega)
    | succ m ih =>
      intro k hk hj
      have h2 := hb (a + k)
      have hv := numA_le t.1.1 a k
      refine r_iload (pc := 5) (i := 4) (tX9_scanNumber.at 4 rfl) rfl ?_
      refine r_iload_n (pc := 7) (i := 2) (tX9_scanNumber.at 5 rfl) rfl rfl ?_
      refine r_icmp_geN (pc := 8) 52 (tX9_scanNumber.at 6 rfl) (by decide) (by omega) (by omega) (fun c => by omega) (fun _ => ?_)
      refine r_aload_n (pc := 11) (i := 0) (tX9_scanNumber.at 7 rfl) rfl rfl ?_
      refine r_get (pc := 12) (tX9_scanNumber.at 8 rfl) gf_X9_9 (tkH_0) rfl ?_
      refine r_iload (pc := 15) (i := 4) (tX9_scanNumber.at 9 rfl) rfl ?_
      refine r_bald (pc := 17) (tX9_scanNumber.at 10 rfl) (tkH_1) (a + k) (rfl) (by omega) (Nat.le_of_ble_eq_true rfl) ?_
      rw [show bF t.1.1 (a + k) = zI (sgn (t.1.1 (a + k))) from rfl]
      refine r_callS (M' := mX9_isDigit) (pc := 18) (tX9_scanNumber.at 11 rfl) ml_X9_45 rfl mw_X9_isDigit ⟨by decide, by decide⟩ (c_isDig h2) rfl rfl (Nat.le_of_ble_eq_true rfl) (Nat.le_of_ble_eq_true rfl) (Nat.le_of_ble_eq_true rfl) ?_
      rintro _ _ _ ⟨rfl, rfl, rfl⟩
      have hbl : Bool.toNat (isDg (t.1.1 (a + k))) ≤ 1 := Bool.toNat_le _
      refine r_if_eqN (pc := 21) 52 (tX9_scanNumber.at 12 rfl) (by decide) (by omega) (fun c => ?_) (fun c => ?_)
      · exact fin k (fstN_is (by omega) (fun j hj2 => by simp [hj j hj2]) (Or.inr (by cases q : isDg (t.1.1 (a + k)) <;> simp_all))) (by omega)
      · have hdg : isDg (t.1.1 (a + k)) = true := by cases q : isDg (t.1.1 (a + k)) <;> simp_all
        have hd2 := isDg_b hdg
        refine r_sipush (pc := 24) (w := nI 10000) (tX9_scanNumber.at 13 rfl) (by decide) ?_
        refine r_iload_n (pc := 27) (i := 3) (tX9_scanNumber.at 14 rfl) rfl rfl ?_
        refine r_bipush (pc := 28) (w := nI 10) (tX9_scanNumber.at 15 rfl) (by decide) ?_
        first | refine r_imulN (pc := 30) (tX9_scanNumber.at 16 rfl) ?_ | refine r_imulZ (pc := 30) (tX9_scanNumber.at 16 rfl) ?_ | refine r_imul (pc := 30) (tX9_scanNumber.at 16 rfl) ?_
        refine r_aload_n (pc := 31) (i := 0) (tX9_scanNumber.at 17 rfl) rfl rfl ?_
        refine r_get (pc := 32) (tX9_scanNumber.at 18 rfl) gf_X9_9 (tkH_0) rfl ?_
        refine r_iload (pc := 35) (i := 4) (tX9_scanNumber.at 19 rfl) rfl ?_
        refine r_bald (pc := 37) (tX9_scanNumber.at 20 rfl) (tkH_1) (a + k) (rfl) (by omega) (Nat.le_of_ble_eq_true rfl) ?_
        refine r_eq rfl (st2 := [.int (nI (t.1.1 (a + k))), .int (nI (numA t.1.1 a k * 10)), .int (nI 10000)]) (by
          show Value.int (zI (sgn (t.1.1 (a + k)))) :: _ = _
          rw [show sgn (t.1.1 (a + k)) = ((t.1.1 (a + k) : Nat) : Int) from by unfold sgn; rw [if_pos (by omega)], zI_nat]
          rfl) ?_
        first | refine r_iaddN (pc := 38) (tX9_scanNumber.at 21 rfl) ?_ | refine r_iaddZ (pc := 38) (tX9_scanNumber.at 21 rfl) ?_ | refine r_iadd (pc := 38) (tX9_scanNumber.at 21 rfl) ?_
        refine r_bipush (pc := 39) (w := nI 48) (tX9_scanNumber.at 22 rfl) (by decide) ?_
        first | refine r_isubN (pc := 41) (tX9_scanNumber.at 23 rfl) (by omega) ?_ | refine r_isubZ (pc := 41) (tX9_scanNumber.at 23 rfl) ?_ | refine r_isub (pc := 41) (tX9_scanNumber.at 23 rfl) ?_
        first | refine r_mminN (pc := 42) (tX9_scanNumber.at 24 rfl) ml_X9_32 mw_min_s mw_math mw_min_c (Nat.le_of_ble_eq_true rfl) (Nat.le_of_ble_eq_true rfl) (Nat.le_of_ble_eq_true rfl) (Nat.le_of_ble_eq_true rfl) (by omega) (by omega) ?_ | refine r_mminZ (pc := 42) (tX9_scanNumber.at 24 rfl) ml_X9_32 mw_min_s mw_math mw_min_c (Nat.le_of_ble_eq_true rfl) (Nat.le_of_ble_eq_true rfl) (Nat.le_of_ble_eq_true rfl) (Nat.le_of_ble_eq_true rfl) ⟨by omega, by omega⟩ ⟨by omega, by omega⟩ ?_ | refine r_mmin (pc := 42) (tX9_scanNumber.at 24 rfl) ml_X9_32 mw_min_s mw_math mw_min_c (Nat.le_of_ble_eq_true rfl) (Nat.le_of_ble_eq_true rfl) (Nat.le_of_ble_eq_true rfl) (Nat.le_of_ble_eq_true rfl) ?_
        refine r_istore_n (pc := 45) (i := 3) (tX9_scanNumber.at 25 rfl) rfl (by decide) ?_
        first | refine r_iincN (pc := 46) (tX9_scanNumber.at 26 rfl) rfl (by decide) ?_ | refine r_iinc (pc := 46) (tX9_scanNumber.at 26 rfl) rfl rfl (by decide) ?_
        refine r_goto (pc := 49) 5 (tX9_scanNumber.at 27 rfl) (by decide) ?_
        exact ih (k + 1) (by omega) (fun j hj2 => by
          by_cases h5 : j < k
          · exact hj j h5
          · rw [show j = k by omega]
            exact hdg)
  refine r_iconst (pc := 0) (w := nI 0) (tX9_scanNumber.at 0 rfl) (by decide) ?_
  refine r_istore_n (pc := 1) (i := 3) (tX9_scanNumber.at 1 rfl) rfl (by decide) ?_
  refine r_iload_n (pc := 2) (i := 1) (tX9_scanNumber.at 2 rfl) rfl rfl ?_
  refine r_istore (pc := 3) (i := 4) (tX9_scanNumber.at 3 rfl) (by decide) ?_
  exact key (len - a) 0 (by omega) (fun j hj => by omega)
theorem c_scanW {v : Ev} {h : Hp} {top q a len : Nat} {t : TK} (hb : ∀ k, t.1.1 k < 256) (hal : a ≤ len) (hl : len ≤ 600) (hc : t.2.2 < 601) : Cal v mX9_scanWord 7 0 0 [.ref q, .int (nI a), .int (nI len)] (tkH v h q t) top (fun r h' top' => r = some (.int (nI (a + ltN t.1.1 len a))) ∧ h' = tkH v h q (t.add (kdW t.1.1 a (a + ltN t.1.1 len a) : Nat) a 0) ∧ top = top') noX := by
  refine Cal.ofJ (by decide +kernel) rfl (Nat.le_of_ble_eq_true rfl) fun hz0 => ?_
  refine r_ls [some (.ref q), some (.int (nI a)), some (.int (nI len)), none] rfl ?_
  generalize hPo : (fun (r : Option Value) (h' : Hp) (top' : Nat) => r = some (.int (nI (a + ltN t.1.1 len a))) ∧ h' = tkH v h q (t.add (kdW t.1.1 a (a + ltN t.1.1 len a) : Nat) a 0) ∧ top = top') = Po
  have fin : ∀ k, ltN t.1.1 len a = k → a + k ≤ 600 → J v mX9_scanWord (rmOf 7 0 0) (KM v Po noX 0 0) top 0 0 (tkH v h q t) top 25 [some (.ref q), some (.int (nI a)), some (.int (nI len)), some (.int (nI (a + k)))] [] := by
    intro k hk hk2
    refine r_aload_n (pc := 25) (i := 0) (tX9_scanWord.at 13 rfl) rfl rfl ?_
    refine r_aload_n (pc := 26) (i := 0) (tX9_scanWord.at 14 rfl) rfl rfl ?_
    refine r_iload_n (pc := 27) (i := 1) (tX9_scanWord.at 15 rfl) rfl rfl ?_
    refine r_iload_n (pc := 28) (i := 3) (tX9_scanWord.at 16 rfl) rfl rfl ?_
    refine r_callV (M' := mX9_kindOfWord) (pc := 29) (tX9_scanWord.at 17 rfl) ml_X9_58 rfl mw_X9_kindOfWord ⟨by decide, by decide⟩ (tkH_0) rfl rfl (c_kdW hb (by omega) hk2) rfl rfl (Nat.le_of_ble_eq_true rfl) (Nat.le_of_ble_eq_true rfl) (Nat.le_of_ble_eq_true rfl) ?_
    rintro _ _ _ ⟨rfl, rfl, rfl⟩
    refine r_eq rfl (st2 := [.int (zI (kdW t.1.1 a (a + k) : Nat)), .ref q]) (by rw [zI_nat]; rfl) ?_
    refine r_iload_n (pc := 32) (i := 1) (tX9_scanWord.at 18 rfl) rfl rfl ?_
    refine r_iconst (pc := 33) (w := nI 0) (tX9_scanWord.at 19 rfl) (by decide) ?_
    refine r_callV (M' := mX9_put) (pc := 34) (tX9_scanWord.at 20 rfl) ml_X9_41 rfl mw_X9_put ⟨by decide, by decide⟩ (tkH_0) rfl rfl (c_tkPut hc) rfl rfl (Nat.le_of_ble_eq_true rfl) (Nat.le_of_ble_eq_true rfl) (Nat.le_of_ble_eq_true rfl) ?_
    rintro _ _ _ ⟨rfl, rfl, rfl⟩
    refine r_iload_n (pc := 37) (i := 3) (tX9_scanWord.at 21 rfl) rfl rfl ?_
    refine r_iret (pc := 38) (tX9_scanWord.at 22 rfl) rfl (Nat.le_of_ble_eq_true rfl) (Nat.le_of_ble_eq_true rfl) ?_
    subst hPo
    subst hk
    exact ⟨rfl, rfl, rfl⟩
  have key : ∀ m k, k + m = len - a → (∀ j, j < k → isLt (t.1.1 (a + j)) = true) → J v mX9_scanWord (rmOf 7 0 0) (KM v Po noX 0 0) top 0 0 (tkH v h q t) top 2 [some (.ref q), some (.int (nI a)), some (.int (nI len)), some (.int (nI (a + k)))] [] := by
    intro m
    induction m with
    | zero =>
      intro k hk hj
      refine r_iload_n (pc := 2) (i := 3) (tX9_scanWord.at 2 rfl) rfl rfl ?_
      refine r_iload_n (pc := 3) (i := 2) (tX9_scanWord.at 3 rfl) rfl rfl ?_
      refine r_icmp_geN (pc := 4) 25 (tX9_scanWord.at 4 rfl) (by decide) (by omega) (by omega) (fun _ => ?_) (fun c => by omega)
      exact fin k (fstN_is (by omega) (fun j hj2 => by simp [hj j hj2]) (Or.inl (by omega))) (by omega)
    | succ m ih =>
      intro k hk hj
      have h2 := hb (a + k)
      refine r_iload_n (pc := 2) (i := 3) (tX9_scanWord.at 2 rfl) rfl rfl ?_
      refine r_iload_n (pc := 3) (i := 2) (tX9_scanWord.at 3 rfl) rfl rfl ?_
      refine r_icmp_geN (pc := 4) 25 (tX9_scanWord.at 4 rfl) (by decide) (by omega) (by omega) (fun c => by omega) (fun _ => ?_)
      refine r_aload_n (pc := 7) (i := 0) (tX9_scanWord.at 5 rfl) rfl rfl ?_
      refine r_get (pc := 8) (tX9_scanWord.at 6 rfl) gf_X9_9 (tkH_0) rfl ?_
      refine r_iload_n (pc := 11) (i := 3) (tX9_scanWord.at 7 rfl) rfl rfl ?_
      refine r_bald (pc := 12) (tX9_scanWord.at 8 rfl) (tkH_1) (a + k) (rfl) (by omega) (Nat.le_of_ble_eq_true rfl) ?_
      rw [show bF t.1.1 (a + k) = zI (sgn (t.1.1 (a + k))) from rfl]
      refine r_callS (M' := mX9_isLetter) (pc := 13) (tX9_scanWord.at 9 rfl) ml_X9_52 rfl mw_X9_isLetter ⟨by decide, by decide⟩ (c_isLet h2) rfl rfl (Nat.le_of_ble_eq_true rfl) (Nat.le_of_ble_eq_true rfl) (Nat.le_of_ble_eq_true rfl) ?_
      rintro _ _ _ ⟨rfl, rfl, rfl⟩
      have hbl : Bool.toNat (isLt (t.1.1 (a + k))) ≤ 1 := Bool.toNat_le _
      refine r_if_eqN (pc := 16) 25 (tX9_scanWord.at 10 rfl) (by decide) (by omega) (fun c => ?_) (fun c => ?_)
      · exact fin k (fstN_is (by omega) (fun j hj2 => by simp [hj j hj2]) (Or.inr (by cases q : isLt (t.1.1 (a + k)) <;> simp_all))) (by omega)
      · first | refine r_iincN (pc := 19) (tX9_scanWord.at 11 rfl) rfl (by decide) ?_ | refine r_iinc (pc := 19) (tX9_scanWord.at 11 rfl) rfl rfl (by decide) ?_
        refine r_goto (pc := 22) 2 (tX9_scanWord.at 12 rfl) (by decide) ?_
        exact ih (k + 1) (by omega) (fun j hj2 => by
          by_cases h5 : j < k
          · exact hj j h5
          · rw [show j = k by omega]
            cases q : isLt (t.1.1 (a + k)) <;> simp_all)
  refine r_iload_n (pc := 0) (i := 1) (tX9_scanWord.at 0 rfl) rfl rfl ?_
  refine r_istore_n (pc := 1) (i := 3) (tX9_scanWord.at 1 rfl) rfl (by decide) ?_
  exact key (len - a) 0 (by omega) (fun j hj => by omega)
/-- the token that begins at a: kind, start, value; and where it ends -/
def tok (b : Nat → Nat) (len a : Nat) : (Int × Nat × Nat) × Nat := if isDg (b a) then ((257, a, numA b a (dgN b len a)), a + dgN b len a) else if isLt (b a) then (((kdW b a (a + ltN b len a) : Nat), a, 0), a + ltN b len a) else ((sgn (b a), a, 0), a + 1)
theorem c_scanT {v : Ev} {h : Hp} {top q a len : Nat} {t : TK} (hb : ∀ k, t.1.1 k < 256) (hal : a < len) (hl : len ≤ 600) (hc : t.2.2 < 601) : Cal v mX9_scanToken 8 0 0 [.ref q, .int (nI a), .int (nI len)] (tkH v h q t) top (fun r h' top' => r = some (.int (nI (tok t.1.1 len a).2)) ∧ h' = tkH v h q (t.add (tok t.1.1 len a).1.1 (tok t.1.1 len a).1.2.1 (tok t.1.1 len a).1.2.2) ∧ top = top') noX := by
  have h2 := hb a
  refine Cal.ofJ (by decide +kernel) rfl (Nat.le_of_ble_eq_true rfl) fun hz0 => ?_
  refine r_ls [some (.ref q), some (.int (nI a)), some (.int (nI len))] rfl ?_
  refine r_aload_n (pc := 0) (i := 0) (tX9_scanToken.at 0 rfl) rfl rfl ?_
  refine r_get (pc := 1) (tX9_scanToken.at 1 rfl) gf_X9_9 (tkH_0) rfl ?_
  refine r_iload_n (pc := 4) (i := 1) (tX9_scanToken.at 2 rfl) rfl rfl ?_
  refine r_bald (pc := 5) (tX9_scanToken.at 3 rfl) (tkH_1) (a) (rfl) (by omega) (Nat.le_of_ble_eq_true rfl) ?_
  rw [show bF t.1.1 a = zI (sgn (t.1.1 a)) from rfl]
  refine r_callS (M' := mX9_isDigit) (pc := 6) (tX9_scanToken.at 4 rfl) ml_X9_45 rfl mw_X9_isDigit ⟨by decide, by decide⟩ (c_isDig h2) rfl rfl (Nat.le_of_ble_eq_true rfl) (Nat.le_of_ble_eq_true rfl) (Nat.le_of_ble_eq_true rfl) ?_
  rintro _ _ _ ⟨rfl, rfl, rfl⟩
  rcases (show isDg (t.1.1 a) = true ∨ isDg (t.1.1 a) = false by cases isDg (t.1.1 a) <;> simp) with W | W
  · have e : tok t.1.1 len a = ((257, a, numA t.1.1 a (dgN t.1.1 len a)), a + dgN t.1.1 len a) := by rw [tok, if_pos W]
    rw [e, W]
    refine r_if_eqN (pc := 9) 19 (tX9_scanToken.at 5 rfl) (by decide) (by decide) (fun z => absurd z (by decide)) (fun _ => ?_)
    refine r_aload_n (pc := 12) (i := 0) (tX9_scanToken.at 6 rfl) rfl rfl ?_
    refine r_iload_n (pc := 13) (i := 1) (tX9_scanToken.at 7 rfl) rfl rfl ?_
    refine r_iload_n (pc := 14) (i := 2) (tX9_scanToken.at 8 rfl) rfl rfl ?_
    refine r_callV (M' := mX9_scanNumber) (pc := 15) (tX9_scanToken.at 9 rfl) ml_X9_49 rfl mw_X9_scanNumber ⟨by decide, by decide⟩ (tkH_0) rfl rfl (c_scanN hb (Nat.le_of_lt hal) hl hc) rfl rfl (Nat.le_of_ble_eq_true rfl) (Nat.le_of_ble_eq_true rfl) (Nat.le_of_ble_eq_true rfl) ?_
    rintro _ _ _ ⟨rfl, rfl, rfl⟩
    refine r_iret (pc := 18) (tX9_scanToken.at 10 rfl) rfl (Nat.le_of_ble_eq_true rfl) (Nat.le_of_ble_eq_true rfl) ?_
    exact ⟨rfl, rfl, rfl⟩
  rw [W]
  refine r_if_eqN (pc := 9) 19 (tX9_scanToken.at 5 rfl) (by decide) (by decide) (fun _ => ?_) (fun z => absurd rfl z)
  refine r_aload_n (pc := 19) (i := 0) (tX9_scanToken.at 11 rfl) rfl rfl ?_
  refine r_get (pc := 20) (tX9_scanToken.at 12 rfl) gf_X9_9 (tkH_0) rfl ?_
  refine r_iload_n (pc := 23) (i := 1) (tX9_scanToken.at 13 rfl) rfl rfl ?_
  refine r_bald (pc := 24) (tX9_scanToken.at 14 rfl) (tkH_1) (a) (rfl) (by omega) (Nat.le_of_ble_eq_true rfl) ?_
  rw [show bF t.1.1 a = zI (sgn (t.1.1 a)) from rfl]
  refine r_callS (M' := mX9_isLetter) (pc := 25) (tX9_scanToken.at 15 rfl) ml_X9_52 rfl mw_X9_isLetter ⟨by decide, by decide⟩ (c_isLet h2) rfl rfl (Nat.le_of_ble_eq_true rfl) (Nat.le_of_ble_eq_true rfl) (Nat.le_of_ble_eq_true rfl) ?_
  rintro _ _ _ ⟨rfl, rfl, rfl⟩
  rcases (show isLt (t.1.1 a) = true ∨ isLt (t.1.1 a) = false by cases isLt (t.1.1 a) <;> simp) with W2 | W2
  · have e : tok t.1.1 len a = ((((kdW t.1.1 a (a + ltN t.1.1 len a) : Nat) : Int), a, 0), a + ltN t.1.1 len a) := by rw [tok, if_neg (by rw [W]; decide), if_pos W2]
    rw [e, W2]
    refine r_if_eqN (pc := 28) 38 (tX9_scanToken.at 16 rfl) (by decide) (by decide) (fun z => absurd z (by decide)) (fun _ => ?_)
    refine r_aload_n (pc := 31) (i := 0) (tX9_scanToken.at 17 rfl) rfl rfl ?_
    refine r_iload_n (pc := 32) (i := 1) (tX9_scanToken.at 18 rfl) rfl rfl ?_
    refine r_iload_n (pc := 33) (i := 2) (tX9_scanToken.at 19 rfl) rfl rfl ?_
    refine r_callV (M' := mX9_scanWord) (pc := 34) (tX9_scanToken.at 20 rfl) ml_X9_55 rfl mw_X9_scanWord ⟨by decide, by decide⟩ (tkH_0) rfl rfl (c_scanW hb (Nat.le_of_lt hal) hl hc) rfl rfl (Nat.le_of_ble_eq_true rfl) (Nat.le_of_ble_eq_true rfl) (Nat.le_of_ble_eq_true rfl) ?_
    rintro _ _ _ ⟨rfl, rfl, rfl⟩
    refine r_iret (pc := 37) (tX9_scanToken.at 21 rfl) rfl (Nat.le_of_ble_eq_true rfl) (Nat.le_of_ble_eq_true rfl) ?_
    exact ⟨rfl, rfl, rfl⟩
  have e : tok t.1.1 len a = ((sgn (t.1.1 a), a, 0), a + 1) := by rw [tok, if_neg (by rw [W]; decide), if_neg (by rw [W2]; decide)]
  rw [e, W2]
  refine r_if_eqN (pc := 28) 38 (tX9_scanToken.at 16 rfl) (by decide) (by decide) (fun _ => ?_) (fun z => absurd rfl z)
  refine r_aload_n (pc := 38) (i := 0) (tX9_scanToken.at 22 rfl) rfl rfl ?_
  refine r_aload_n (pc := 39) (i := 0) (tX9_scanToken.at 23 rfl) rfl rfl ?_
  refine r_get (pc := 40) (tX9_scanToken.at 24 rfl) gf_X9_9 (tkH_0) rfl ?_
  refine r_iload_n (pc := 43) (i := 1) (tX9_scanToken.at 25 rfl) rfl rfl ?_
  refine r_bald (pc := 44) (tX9_scanToken.at 26 rfl) (tkH_1) (a) (rfl) (by omega) (Nat.le_of_ble_eq_true rfl) ?_
  rw [show bF t.1.1 a = zI (sgn (t.1.1 a)) from rfl]
  refine r_iload_n (pc := 45) (i := 1) (tX9_scanToken.at 27 rfl) rfl rfl ?_
  refine r_iconst (pc := 46) (w := nI 0) (tX9_scanToken.at 28 rfl) (by decide) ?_
  refine r_callV (M' := mX9_put) (pc := 47) (tX9_scanToken.at 29 rfl) ml_X9_41 rfl mw_X9_put ⟨by decide, by decide⟩ (tkH_0) rfl rfl (c_tkPut hc) rfl rfl (Nat.le_of_ble_eq_true rfl) (Nat.le_of_ble_eq_true rfl) (Nat.le_of_ble_eq_true rfl) ?_
  rintro _ _ _ ⟨rfl, rfl, rfl⟩
  refine r_iload_n (pc := 50) (i := 1) (tX9_scanToken.at 30 rfl) rfl rfl ?_
  refine r_iconst (pc := 51) (w := nI 1) (tX9_scanToken.at 31 rfl) (by decide) ?_
  first | refine r_iaddN (pc := 52) (tX9_scanToken.at 32 rfl) ?_ | refine r_iaddZ (pc := 52) (tX9_scanToken.at 32 rfl) ?_ | refine r_iadd (pc := 52) (tX9_scanToken.at 32 rfl) ?_
  refine r_iret (pc := 53) (tX9_scanToken.at 33 rfl) rfl (Nat.le_of_ble_eq_true rfl) (Nat.le_of_ble_eq_true rfl) ?_
  exact ⟨rfl, rfl, rfl⟩
/-- the tokens from a on, in at most f rounds -/
def tks (b : Nat → Nat) (len : Nat) : Nat → Nat → List (Int × Nat × Nat)
  | 0, _ => []
  | f + 1, a => if a < len then (if b a = 32 then tks b len f (a + 1) else (tok b len a).1 :: tks b len f (tok b len a).2) else []
def TK.adds (t : TK) : List (Int × Nat × Nat) → TK
  | [] => t
  | k :: l => (t.add k.1 k.2.1 k.2.2).adds l
theorem fstN_le (p : Nat → Bool) (n : Nat) : fstN p n ≤ n := (fstN_spec p n).1
theorem tok_le {b : Nat → Nat} {len a : Nat} (ha : a < len) : (tok b len a).2 ≤ len := by
  unfold tok
  have h1 := fstN_le (fun j => !isDg (b (a + j))) (len - a)
  have h2 := fstN_le (fun j => !isLt (b (a + j))) (len - a)
  split
  · show a + dgN b len a ≤ len
    unfold dgN
    omega
  · split
    · show a + ltN b len a ≤ len
      unfold ltN
      omega
    · show a + 1 ≤ len
      omega
theorem c_scan {v : Ev} {h : Hp} {top q n len : Nat} {b : Nat → Nat} {t2 : (Nat → Int) × (Nat → Nat) × (Nat → Nat)} {ct : Nat} (hb : ∀ k, b k < 256) (hn : n ≤ 600) (hl : len ≤ n) : Cal v mX9_scan 9 0 0 [.ref q, .int (nI len)] (tkH v h q ((b, n), t2, ct)) top (pV (tkH v h q (TK.adds ((b, n), t2, 0) (tks b len 600 0 ++ [(256, len, 0)]))) top) noX := by
  generalize hX : TK.adds ((b, n), t2, 0) (tks b len 600 0 ++ [(256, len, 0)]) = X
  refine Cal.ofJ (by decide +kernel) rfl (Nat.le_of_ble_eq_true rfl) fun hz0 => ?_
  refine r_ls [some (.ref q), some (.int (nI len)), none, none, none] rfl ?_
  refine r_iload_n (pc := 0) (i := 1) (tX9_scan.at 0 rfl) rfl rfl ?_
  refine r_aload_n (pc := 1) (i := 0) (tX9_scan.at 1 rfl) rfl rfl ?_
  refine r_get (pc := 2) (tX9_scan.at 2 rfl) gf_X9_15 (tkH_0) rfl ?_
  rw [show ((((b, n), t2, ct) : TK).1.2) = n from rfl]
  first | refine r_mminN (pc := 5) (tX9_scan.at 3 rfl) ml_X9_32 mw_min_s mw_math mw_min_c (Nat.le_of_ble_eq_true rfl) (Nat.le_of_ble_eq_true rfl) (Nat.le_of_ble_eq_true rfl) (Nat.le_of_ble_eq_true rfl) (by omega) (by omega) ?_ | refine r_mminZ (pc := 5) (tX9_scan.at 3 rfl) ml_X9_32 mw_min_s mw_math mw_min_c (Nat.le_of_ble_eq_true rfl) (Nat.le_of_ble_eq_true rfl) (Nat.le_of_ble_eq_true rfl) (Nat.le_of_ble_eq_true rfl) ⟨by omega, by omega⟩ ⟨by omega, by omega⟩ ?_ | refine r_mmin (pc := 5) (tX9_scan.at 3 rfl) ml_X9_32 mw_min_s mw_math mw_min_c (Nat.le_of_ble_eq_true rfl) (Nat.le_of_ble_eq_true rfl) (Nat.le_of_ble_eq_true rfl) (Nat.le_of_ble_eq_true rfl) ?_
  rw [show min len n = len by omega]
  generalize hPo : pV (tkH v h q (X)) top = Po
  refine r_istore_n (pc := 8) (i := 2) (tX9_scan.at 4 rfl) rfl (by decide) ?_
  refine r_iconst (pc := 9) (w := nI 0) (tX9_scan.at 5 rfl) (by decide) ?_
  refine r_istore_n (pc := 10) (i := 3) (tX9_scan.at 6 rfl) rfl (by decide) ?_
  refine r_aload_n (pc := 11) (i := 0) (tX9_scan.at 7 rfl) rfl rfl ?_
  refine r_iconst (pc := 12) (w := nI 0) (tX9_scan.at 8 rfl) (by decide) ?_
  refine r_put (pc := 13) (tX9_scan.at 9 rfl) pf_X9_29 (tkH_0) (Nat.le_of_ble_eq_true rfl) (rfl) (rfl) ?_
  refine r_eq (h2 := tkH v h q ((b, n), t2, 0)) (tkH_p0 _ _) rfl ?_
  refine r_iconst (pc := 16) (w := nI 0) (tX9_scan.at 10 rfl) (by decide) ?_
  refine r_istore (pc := 17) (i := 4) (tX9_scan.at 11 rfl) (by decide) ?_
  have key : ∀ f r a (t : TK), r + f = 600 → a ≤ len → t.1.1 = b → t.2.2 ≤ r → X = t.adds (tks b len f a ++ [(256, len, 0)]) → J v mX9_scan (rmOf 9 0 0) (KM v Po noX 0 0) top 0 0 (tkH v h q t) top 19 [some (.ref q), some (.int (nI len)), some (.int (nI len)), some (.int (nI a)), some (.int (nI r))] [] := by
    have fin : ∀ r a (t : TK), t.2.2 ≤ 600 → X = t.add 256 len 0 → J v mX9_scan (rmOf 9 0 0) (KM v Po noX 0 0) top 0 0 (tkH v h q t) top 62 [some (.ref q), some (.int (nI len)), some (.int (nI len)), some (.int (nI a)), some (.int (nI r))] [] := by
      intro r a t ht he
      refine r_aload_n (pc := 62) (i := 0) (tX9_scan.at 33 rfl) rfl rfl ?_
      refine r_sipush (pc := 63) (w := zI 256) (tX9_scan.at 34 rfl) (by decide) ?_
      refine r_iload_n (pc := 66) (i := 2) (tX9_scan.at 35 rfl) rfl rfl ?_
      refine r_iconst (pc := 67) (w := nI 0) (tX9_scan.at 36 rfl) (by decide) ?_
      refine r_callV (M' := mX9_put) (pc := 68) (tX9_scan.at 37 rfl) ml_X9_41 rfl mw_X9_put ⟨by decide, by decide⟩ (tkH_0) rfl rfl (c_tkPut (k := 256) (x := 0) (by omega)) rfl rfl (Nat.le_of_ble_eq_true rfl) (Nat.le_of_ble_eq_true rfl) (Nat.le_of_ble_eq_true rfl) ?_
      rintro _ _ _ ⟨rfl, rfl, rfl⟩
      refine r_vret (pc := 71) (tX9_scan.at 38 rfl) rfl (Nat.le_of_ble_eq_true rfl) (Nat.le_of_ble_eq_true rfl) ?_
      subst hPo
      exact ⟨rfl, by rw [he], rfl⟩
    intro f
    induction f with
    | zero =>
      intro r a t hr ha hbt hc he
      refine r_iload (pc := 19) (i := 4) (tX9_scan.at 12 rfl) rfl ?_
      refine r_sipush (pc := 21) (w := nI 600) (tX9_scan.at 13 rfl) (by decide) ?_
      refine r_icmp_geN (pc := 24) 62 (tX9_scan.at 14 rfl) (by decide) (by omega) (by omega) (fun _ => ?_) (fun c => by omega)
      exact fin r a t (by omega) he
    | succ f ih =>
      intro r a t hr ha hbt hc he
      refine r_iload (pc := 19) (i := 4) (tX9_scan.at 12 rfl) rfl ?_
      refine r_sipush (pc := 21) (w := nI 600) (tX9_scan.at 13 rfl) (by decide) ?_
      refine r_icmp_geN (pc := 24) 62 (tX9_scan.at 14 rfl) (by decide) (by omega) (by omega) (fun c => by omega) (fun _ => ?_)
      refine r_iload_n (pc := 27) (i := 3) (tX9_scan.at 15 rfl) rfl rfl ?_
      refine r_iload_n (pc := 28) (i := 2) (tX9_scan.at 16 rfl) rfl rfl ?_
      rw [tks] at he
      by_cases c : a < len
      · rw [if_pos c] at he
        refine r_icmp_geN (pc := 29) 62 (tX9_scan.at 17 rfl) (by decide) (by omega) (by omega) (fun c => by omega) (fun _ => ?_)
        refine r_aload_n (pc := 32) (i := 0) (tX9_scan.at 18 rfl) rfl rfl ?_
        refine r_get (pc := 33) (tX9_scan.at 19 rfl) gf_X9_9 (tkH_0) rfl ?_
        refine r_iload_n (pc := 36) (i := 3) (tX9_scan.at 20 rfl) rfl rfl ?_
        refine r_bald (pc := 37) (tX9_scan.at 21 rfl) (tkH_1) (a) (rfl) (by omega) (Nat.le_of_ble_eq_true rfl) ?_
        rw [show bF t.1.1 a = zI (sgn (b a)) by rw [← hbt]; rfl]
        have h3 : -128 ≤ sgn (b a) ∧ sgn (b a) < 128 := by have := hb a; unfold sgn; split <;> omega
        refine r_bipush (pc := 38) (w := nI 32) (tX9_scan.at 22 rfl) (by decide) ?_
        rw [show nI 32 = zI 32 from rfl]
        refine r_icmp_neZ (pc := 40) 49 (tX9_scan.at 23 rfl) (by decide) ⟨by omega, by omega⟩ ⟨by omega, by omega⟩ (fun c2 => ?_) (fun c2 => ?_)
        · have hne : b a ≠ 32 := fun z => c2 (by rw [z]; rfl)
          rw [if_neg hne] at he
          subst hbt
          have hle := tok_le (b := t.1.1) c
          refine r_aload_n (pc := 49) (i := 0) (tX9_scan.at 26 rfl) rfl rfl ?_
          refine r_iload_n (pc := 50) (i := 3) (tX9_scan.at 27 rfl) rfl rfl ?_
          refine r_iload_n (pc := 51) (i := 2) (tX9_scan.at 28 rfl) rfl rfl ?_
          refine r_callV (M' := mX9_scanToken) (pc := 52) (tX9_scan.at 29 rfl) ml_X9_38 rfl mw_X9_scanToken ⟨by decide, by decide⟩ (tkH_0) rfl rfl (c_scanT hb c (by omega) (by omega)) rfl rfl (Nat.le_of_ble_eq_true rfl) (Nat.le_of_ble_eq_true rfl) (Nat.le_of_ble_eq_true rfl) ?_
          rintro _ _ _ ⟨rfl, rfl, rfl⟩
          refine r_istore_n (pc := 55) (i := 3) (tX9_scan.at 30 rfl) rfl (by decide) ?_
          first | refine r_iincN (pc := 56) (tX9_scan.at 31 rfl) rfl (by decide) ?_ | refine r_iinc (pc := 56) (tX9_scan.at 31 rfl) rfl rfl (by decide) ?_
          refine r_goto (pc := 59) 19 (tX9_scan.at 32 rfl) (by decide) ?_
          exact ih (r + 1) _ _ (by omega) hle rfl (by show t.2.2 + 1 ≤ r + 1; omega) he
        · have hne : b a = 32 := by
            have := hb a
            unfold sgn at c2
            split at c2 <;> omega
          rw [if_pos hne] at he
          first | refine r_iincN (pc := 43) (tX9_scan.at 24 rfl) rfl (by decide) ?_ | refine r_iinc (pc := 43) (tX9_scan.at 24 rfl) rfl rfl (by decide) ?_
          refine r_goto (pc := 46) 56 (tX9_scan.at 25 rfl) (by decide) ?_
          first | refine r_iincN (pc := 56) (tX9_scan.at 31 rfl) rfl (by decide) ?_ | refine r_iinc (pc := 56) (tX9_scan.at 31 rfl) rfl rfl (by decide) ?_
          refine r_goto (pc := 59) 19 (tX9_scan.at 32 rfl) (by decide) ?_
          exact ih (r + 1) (a + 1) t (by omega) (by omega) hbt (by omega) he
      · rw [if_neg c] at he
        refine r_icmp_geN (pc := 29) 62 (tX9_scan.at 17 rfl) (by decide) (by omega) (by omega) (fun _ => ?_) (fun c => by omega)
        exact fin r a t (by omega) he
  exact key 600 0 0 _ rfl (Nat.zero_le _) rfl (Nat.le_refl _) hX.symm
theorem c_tkInit {v : Ev} {h : Hp} {q : Nat} (hq : h q = some (ob 9 [.null, .int 0, .null, .null, .null, .int 0])) : Cal v mX9_init 1 4 2403 [.ref q] h (q + 1) (pT (tkH v h q ((fun _ => 0, 0), (fun _ => 0, fun _ => 0, fun _ => 0), 0)) (q + 5)) noX := by
  have n1 : ∀ (h : Hp) (k : Nat) (x : va_E), hp h (q + 1 + k) x q = h q := fun h k x => hp_ne _ _ (by omega)
  refine Cal.ofJ (by decide +kernel) rfl (Nat.le_of_ble_eq_true rfl) fun hz0 => ?_
  refine r_ls [some (.ref q)] rfl ?_
  refine r_aload_n (pc := 0) (i := 0) (tX9_init.at 0 rfl) rfl rfl ?_
  refine r_objInit (pc := 1) (tX9_init.at 1 rfl) ml_X9_3 oi_inst oi_code (Nat.le_of_ble_eq_true rfl) (Nat.le_of_ble_eq_true rfl) ?_
  refine r_aload_n (pc := 4) (i := 0) (tX9_init.at 2 rfl) rfl rfl ?_
  refine r_sipush (pc := 5) (w := nI 600) (tX9_init.at 3 rfl) (by decide) ?_
  refine r_newaB (pc := 8) (600) (tX9_init.at 4 rfl) (rfl) (Nat.le_of_ble_eq_true rfl) ac_byte (Nat.le_of_ble_eq_true rfl) (Nat.le_of_ble_eq_true rfl) (fun fr8 => ?_)
  refine r_putF (pc := 10) (tX9_init.at 5 rfl) pff_X9_9 rfl ((n1 _ 0 _).trans hq) (Nat.le_of_ble_eq_true rfl) rfl rfl ?_
  refine r_aload_n (pc := 13) (i := 0) (tX9_init.at 6 rfl) rfl rfl ?_
  refine r_iconst (pc := 14) (w := nI 0) (tX9_init.at 7 rfl) (by decide) ?_
  refine r_put (pc := 15) (tX9_init.at 8 rfl) pf_X9_15 (hp_eq _ _ _) (Nat.le_of_ble_eq_true rfl) (rfl) (rfl) ?_
  refine r_aload_n (pc := 18) (i := 0) (tX9_init.at 9 rfl) rfl rfl ?_
  refine r_sipush (pc := 19) (w := nI 601) (tX9_init.at 10 rfl) (by decide) ?_
  refine r_newaI (pc := 22) (601) (tX9_init.at 11 rfl) (rfl) (Nat.le_of_ble_eq_true rfl) ac_int (Nat.le_of_ble_eq_true rfl) (Nat.le_of_ble_eq_true rfl) (fun fr22 => ?_)
  refine r_putF (pc := 24) (tX9_init.at 12 rfl) pff_X9_19 rfl ((n1 _ 1 _).trans (hp_eq _ _ _)) (Nat.le_of_ble_eq_true rfl) rfl rfl ?_
  refine r_aload_n (pc := 27) (i := 0) (tX9_init.at 13 rfl) rfl rfl ?_
  refine r_sipush (pc := 28) (w := nI 601) (tX9_init.at 14 rfl) (by decide) ?_
  refine r_newaI (pc := 31) (601) (tX9_init.at 15 rfl) (rfl) (Nat.le_of_ble_eq_true rfl) ac_int (Nat.le_of_ble_eq_true rfl) (Nat.le_of_ble_eq_true rfl) (fun fr31 => ?_)
  refine r_putF (pc := 33) (tX9_init.at 16 rfl) pff_X9_23 rfl ((n1 _ 2 _).trans (hp_eq _ _ _)) (Nat.le_of_ble_eq_true rfl) rfl rfl ?_
  refine r_aload_n (pc := 36) (i := 0) (tX9_init.at 17 rfl) rfl rfl ?_
  refine r_sipush (pc := 37) (w := nI 601) (tX9_init.at 18 rfl) (by decide) ?_
  refine r_newaI (pc := 40) (601) (tX9_init.at 19 rfl) (rfl) (Nat.le_of_ble_eq_true rfl) ac_int (Nat.le_of_ble_eq_true rfl) (Nat.le_of_ble_eq_true rfl) (fun fr40 => ?_)
  refine r_putF (pc := 42) (tX9_init.at 20 rfl) pff_X9_26 rfl ((n1 _ 3 _).trans (hp_eq _ _ _)) (Nat.le_of_ble_eq_true rfl) rfl rfl ?_
  refine r_aload_n (pc := 45) (i := 0) (tX9_init.at 21 rfl) rfl rfl ?_
  refine r_iconst (pc := 46) (w := nI 0) (tX9_init.at 22 rfl) (by decide) ?_
  refine r_put (pc := 47) (tX9_init.at 23 rfl) pf_X9_29 (hp_eq _ _ _) (Nat.le_of_ble_eq_true rfl) (rfl) (rfl) ?_
  refine r_vret (pc := 50) (tX9_init.at 24 rfl) rfl (Nat.le_of_ble_eq_true rfl) (Nat.le_of_ble_eq_true rfl) ?_
  refine ⟨rfl, (tkH_ext ?_ ?_ ?_ ?_ ?_ ?_).symm, rfl⟩
  · simp [hp]
    rfl
  · simp [hp]
    rfl
  · simp [hp]
    rfl
  · simp [hp]
    rfl
  · simp [hp]
    rfl
  · intro a ha
    simp [hp, show a ≠ q by omega, show a ≠ q + 1 by omega, show a ≠ q + 1 + 1 by omega, show a ≠ q + 1 + 1 + 1 by omega, show a ≠ q + 1 + 1 + 1 + 1 by omega]

