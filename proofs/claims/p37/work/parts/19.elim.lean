/-! ===== Equations: the elimination ===== -/
/-- the cells after k steps -/
def elm (A : Nat → Nat → Int) : Nat → Nat → Nat → Int
  | 0, i, j => A i j
  | k + 1, i, j => if k < i ∧ k < j then (elm A k i j * elm A k k k - elm A k i k * elm A k k j).tdiv (match k with | 0 => 1 | t + 1 => elm A t t t) else elm A k i j
def pvt (A : Nat → Nat → Int) : Nat → Int
  | 0 => 1
  | k + 1 => elm A k k k
theorem elm_s (A : Nat → Nat → Int) (k i j : Nat) : elm A (k + 1) i j = if k < i ∧ k < j then (elm A k i j * elm A k k k - elm A k i k * elm A k k j).tdiv (pvt A k) else elm A k i j := by
  cases k <;> rfl
/-- all that is reckoned lies among the longs -/
def okA (A : Nat → Nat → Int) (m : Nat) : Prop :=
  (∀ k, k < m → (∀ t, t < k → elm A t t t ≠ 0) → inL (elm A k k k)) ∧
  (∀ k, k < m → (∀ t, t ≤ k → elm A t t t ≠ 0) → ∀ i j, k < i → i < m → k < j → j ≤ m → inL (elm A k i j * elm A k k k - elm A k i k * elm A k k j)) ∧
  ((∀ t, t < m → elm A t t t ≠ 0) → 0 < elm A m (m - 1) (m - 1) ∧ elm A m (m - 1) (m - 1) ≤ 9223372036854775807) ∧
  ((∀ t, t < m → elm A t t t ≠ 0) → -9223372036854775807 ≤ elm A m (m - 1) m ∧ elm A m (m - 1) m ≤ 9223372036854775807)
theorem c_elim {v : Ev} {h : Hp} {top q m : Nat} {C : Nat → Int} {U : Nat → Nat} {A : Nat → Nat → Int} (hm : m ≤ 6) (hA : ∀ i j, i < m → j ≤ m → C (i * 7 + j) = A i j) (ok : okA A m) :
    Cal v mX1_eliminate 2 0 0 [.ref q] (eH v h q C U m) top (fun r h' top' => top = top' ∧ ∃ C', h' = eH v h q C' U m ∧ ((r = some (.int (nI 1)) ∧ (∀ t, t < m → elm A t t t ≠ 0) ∧ ∀ i j, i < m → j ≤ m → C' (i * 7 + j) = elm A m i j) ∨ (r = some (.int (nI 0)) ∧ ∃ t, t < m ∧ elm A t t t = 0))) noX := by
  refine Cal.ofJ (by decide +kernel) rfl (Nat.le_of_ble_eq_true rfl) fun hz0 => ?_
  refine r_ls [some (.ref q), none, none, none, none, none, none, none, none, none] rfl ?_
  refine r_lconst (pc := 0) (w := lI 1) (tX1_eliminate.at 0 rfl) (by decide) ?_
  refine r_lstore_n (pc := 1) (i := 1) (tX1_eliminate.at 1 rfl) rfl (by decide) ?_
  refine r_iconst (pc := 2) (w := nI 0) (tX1_eliminate.at 2 rfl) (by decide) ?_
  refine r_istore_n (pc := 3) (i := 3) (tX1_eliminate.at 3 rfl) rfl (by decide) ?_
  generalize hPost : (fun (r : Option Value) (h' : Hp) (top' : Nat) => top = top' ∧ ∃ C', h' = eH v h q C' U m ∧ ((r = some (.int (nI 1)) ∧ (∀ t, t < m → elm A t t t ≠ 0) ∧ ∀ i j, i < m → j ≤ m → C' (i * 7 + j) = elm A m i j) ∨ (r = some (.int (nI 0)) ∧ ∃ t, t < m ∧ elm A t t t = 0))) = Po
  -- the cells within a row
  have key3 : ∀ k, k < m → (∀ t, t ≤ k → elm A t t t ≠ 0) → inL (pvt A k) → pvt A k ≠ 0 → ∀ i, k < i → i < m → (∀ C o7 o9, (∀ r c, r < m → c ≤ m → C (r * 7 + c) = if r < i + 1 then elm A (k + 1) r c else elm A k r c) → J v mX1_eliminate (rmOf 2 0 0) (KM v Po noX 0 0) top 0 0 (eH v h q C U m) top 40 [some (.ref q), some (.long (lI (pvt A k))), none, some (.int (nI k)), some (.long (lI (elm A k k k))), none, some (.int (nI (i + 1))), o7, none, o9] []) →
      ∀ n j C, j + n = m + 1 → k < j → (∀ r c, r < m → c ≤ m → C (r * 7 + c) = if r < i ∨ (r = i ∧ c < j) then elm A (k + 1) r c else elm A k r c) → J v mX1_eliminate (rmOf 2 0 0) (KM v Po noX 0 0) top 0 0 (eH v h q C U m) top 63 [some (.ref q), some (.long (lI (pvt A k))), none, some (.int (nI k)), some (.long (lI (elm A k k k))), none, some (.int (nI i)), some (.long (lI (elm A k i k))), none, some (.int (nI j))] [] := by
    intro k hk hp hpv hp0 i hki hi nx n
    induction n with
    | zero =>
      intro j C hj hkj hC
      have hj : j = m + 1 := by omega
      subst hj
      refine r_iload (pc := 63) (i := 9) (tX1_eliminate.at 40 rfl) rfl ?_
      refine r_aload_n (pc := 65) (i := 0) (tX1_eliminate.at 41 rfl) rfl rfl ?_
      refine r_get (pc := 66) (tX1_eliminate.at 42 rfl) gf_X1_22 (eH_0) rfl ?_
      refine r_icmp_gtN (pc := 69) 110 (tX1_eliminate.at 43 rfl) (by decide) (by omega) (by omega) (fun _ => ?_) (fun c => by omega)
      first | refine r_iincN (pc := 110) (tX1_eliminate.at 65 rfl) rfl (by decide) ?_ | refine r_iinc (pc := 110) (tX1_eliminate.at 65 rfl) rfl rfl (by decide) ?_
      refine r_goto (pc := 113) 40 (tX1_eliminate.at 66 rfl) (by decide) ?_
      refine nx C _ _ (fun r c h1 h2 => ?_)
      rw [hC r c h1 h2]
      by_cases h3 : r < i + 1
      · rw [if_pos h3, if_pos (by omega)]
      · rw [if_neg h3, if_neg (by omega)]
    | succ n ih =>
      intro j C hj hkj hC
      have e1 : C (i * 7 + j) = elm A k i j := by rw [hC i j hi (by omega), if_neg (by omega)]
      have e2 : C (k * 7 + j) = elm A k k j := by rw [hC k j hk (by omega), if_pos (by omega), elm_s, if_neg (by omega)]
      have e3 := ok.2.1 k hk hp i j hki hi hkj (by omega)
      refine r_iload (pc := 63) (i := 9) (tX1_eliminate.at 40 rfl) rfl ?_
      refine r_aload_n (pc := 65) (i := 0) (tX1_eliminate.at 41 rfl) rfl rfl ?_
      refine r_get (pc := 66) (tX1_eliminate.at 42 rfl) gf_X1_22 (eH_0) rfl ?_
      refine r_icmp_gtN (pc := 69) 110 (tX1_eliminate.at 43 rfl) (by decide) (by omega) (by omega) (fun c => by omega) (fun _ => ?_)
      refine r_aload_n (pc := 72) (i := 0) (tX1_eliminate.at 44 rfl) rfl rfl ?_
      refine r_iload (pc := 73) (i := 6) (tX1_eliminate.at 45 rfl) rfl ?_
      refine r_iload (pc := 75) (i := 9) (tX1_eliminate.at 46 rfl) rfl ?_
      refine r_aload_n (pc := 77) (i := 0) (tX1_eliminate.at 47 rfl) rfl rfl ?_
      refine r_iload (pc := 78) (i := 6) (tX1_eliminate.at 48 rfl) rfl ?_
      refine r_iload (pc := 80) (i := 9) (tX1_eliminate.at 49 rfl) rfl ?_
      refine r_callV (M' := mX1_cell) (pc := 82) (tX1_eliminate.at 50 rfl) ml_X1_50 rfl mw_X1_cell ⟨by decide, by decide⟩ (eH_0) rfl rfl (c_cell (by omega)) rfl rfl (Nat.le_of_ble_eq_true rfl) (Nat.le_of_ble_eq_true rfl) (Nat.le_of_ble_eq_true rfl) ?_
      rintro _ _ _ ⟨rfl, rfl, rfl⟩
      rw [e1]
      refine r_lload (pc := 85) (i := 4) (tX1_eliminate.at 51 rfl) rfl ?_
      first | refine r_lmulL (pc := 87) (tX1_eliminate.at 52 rfl) ?_ | refine r_lmul (pc := 87) (tX1_eliminate.at 52 rfl) ?_
      refine r_lload (pc := 88) (i := 7) (tX1_eliminate.at 53 rfl) rfl ?_
      refine r_aload_n (pc := 90) (i := 0) (tX1_eliminate.at 54 rfl) rfl rfl ?_
      refine r_iload_n (pc := 91) (i := 3) (tX1_eliminate.at 55 rfl) rfl rfl ?_
      refine r_iload (pc := 92) (i := 9) (tX1_eliminate.at 56 rfl) rfl ?_
      refine r_callV (M' := mX1_cell) (pc := 94) (tX1_eliminate.at 57 rfl) ml_X1_50 rfl mw_X1_cell ⟨by decide, by decide⟩ (eH_0) rfl rfl (c_cell (by omega)) rfl rfl (Nat.le_of_ble_eq_true rfl) (Nat.le_of_ble_eq_true rfl) (Nat.le_of_ble_eq_true rfl) ?_
      rintro _ _ _ ⟨rfl, rfl, rfl⟩
      rw [e2]
      first | refine r_lmulL (pc := 97) (tX1_eliminate.at 58 rfl) ?_ | refine r_lmul (pc := 97) (tX1_eliminate.at 58 rfl) ?_
      first | refine r_lsubL (pc := 98) (tX1_eliminate.at 59 rfl) ?_ | refine r_lsub (pc := 98) (tX1_eliminate.at 59 rfl) ?_
      refine r_lload_n (pc := 99) (i := 1) (tX1_eliminate.at 60 rfl) rfl rfl ?_
      refine r_ldivL (pc := 100) (tX1_eliminate.at 61 rfl) (e3) (hpv) (hp0) ?_
      refine r_callV (M' := mX1_putCell) (pc := 101) (tX1_eliminate.at 62 rfl) ml_X1_64 rfl mw_X1_putCell ⟨by decide, by decide⟩ (eH_0) rfl rfl (c_putCell (i := i) (j := j) (by omega)) rfl rfl (Nat.le_of_ble_eq_true rfl) (Nat.le_of_ble_eq_true rfl) (Nat.le_of_ble_eq_true rfl) ?_
      rintro _ _ _ ⟨rfl, rfl, rfl⟩
      first | refine r_iincN (pc := 104) (tX1_eliminate.at 63 rfl) rfl (by decide) ?_ | refine r_iinc (pc := 104) (tX1_eliminate.at 63 rfl) rfl rfl (by decide) ?_
      refine r_goto (pc := 107) 63 (tX1_eliminate.at 64 rfl) (by decide) ?_
      refine ih (j + 1) _ (by omega) (by omega) (fun r c h1 h2 => ?_)
      by_cases h3 : r = i ∧ c = j
      · obtain ⟨rfl, rfl⟩ := h3
        rw [upZ_eq, if_pos (by omega), elm_s, if_pos ⟨hki, hkj⟩]
      · rw [upZ_ne _ _ (by rw [ne_eq, w7 (by omega) (by omega)]; omega), hC r c h1 h2]
        by_cases h4 : r < i ∨ (r = i ∧ c < j)
        · rw [if_pos h4, if_pos (by omega)]
        · rw [if_neg h4, if_neg (by omega)]
  -- the rows below the pivot's
  have key2 : ∀ k, k < m → (∀ t, t ≤ k → elm A t t t ≠ 0) → inL (pvt A k) → pvt A k ≠ 0 → (∀ C o6 o7 o9, (∀ r c, r < m → c ≤ m → C (r * 7 + c) = elm A (k + 1) r c) → J v mX1_eliminate (rmOf 2 0 0) (KM v Po noX 0 0) top 0 0 (eH v h q C U m) top 4 [some (.ref q), some (.long (lI (pvt A (k + 1)))), none, some (.int (nI (k + 1))), some (.long (lI (elm A k k k))), none, o6, o7, none, o9] []) →
      ∀ n i C o7 o9, i + n = m → k < i → (∀ r c, r < m → c ≤ m → C (r * 7 + c) = if r < i then elm A (k + 1) r c else elm A k r c) → J v mX1_eliminate (rmOf 2 0 0) (KM v Po noX 0 0) top 0 0 (eH v h q C U m) top 40 [some (.ref q), some (.long (lI (pvt A k))), none, some (.int (nI k)), some (.long (lI (elm A k k k))), none, some (.int (nI i)), o7, none, o9] [] := by
    intro k hk hp hpv hp0 nx n
    induction n with
    | zero =>
      intro i C o7 o9 hi hki hC
      have hi : i = m := by omega
      subst hi
      refine r_iload (pc := 40) (i := 6) (tX1_eliminate.at 27 rfl) rfl ?_
      refine r_aload_n (pc := 42) (i := 0) (tX1_eliminate.at 28 rfl) rfl rfl ?_
      refine r_get (pc := 43) (tX1_eliminate.at 29 rfl) gf_X1_22 (eH_0) rfl ?_
      refine r_icmp_geN (pc := 46) 116 (tX1_eliminate.at 30 rfl) (by decide) (by omega) (by omega) (fun _ => ?_) (fun c => by omega)
      refine r_lload (pc := 116) (i := 4) (tX1_eliminate.at 67 rfl) rfl ?_
      refine r_lstore_n (pc := 118) (i := 1) (tX1_eliminate.at 68 rfl) rfl (by decide) ?_
      first | refine r_iincN (pc := 119) (tX1_eliminate.at 69 rfl) rfl (by decide) ?_ | refine r_iinc (pc := 119) (tX1_eliminate.at 69 rfl) rfl rfl (by decide) ?_
      refine r_goto (pc := 122) 4 (tX1_eliminate.at 70 rfl) (by decide) ?_
      exact nx C _ _ _ (fun r c h1 h2 => by rw [hC r c h1 h2, if_pos h1])
    | succ n ih =>
      intro i C o7 o9 hi hki hC
      have e1 : C (i * 7 + k) = elm A k i k := by rw [hC i k (by omega) (by omega), if_neg (by omega)]
      refine r_iload (pc := 40) (i := 6) (tX1_eliminate.at 27 rfl) rfl ?_
      refine r_aload_n (pc := 42) (i := 0) (tX1_eliminate.at 28 rfl) rfl rfl ?_
      refine r_get (pc := 43) (tX1_eliminate.at 29 rfl) gf_X1_22 (eH_0) rfl ?_
      refine r_icmp_geN (pc := 46) 116 (tX1_eliminate.at 30 rfl) (by decide) (by omega) (by omega) (fun c => by omega) (fun _ => ?_)
      refine r_aload_n (pc := 49) (i := 0) (tX1_eliminate.at 31 rfl) rfl rfl ?_
      refine r_iload (pc := 50) (i := 6) (tX1_eliminate.at 32 rfl) rfl ?_
      refine r_iload_n (pc := 52) (i := 3) (tX1_eliminate.at 33 rfl) rfl rfl ?_
      refine r_callV (M' := mX1_cell) (pc := 53) (tX1_eliminate.at 34 rfl) ml_X1_50 rfl mw_X1_cell ⟨by decide, by decide⟩ (eH_0) rfl rfl (c_cell (by omega)) rfl rfl (Nat.le_of_ble_eq_true rfl) (Nat.le_of_ble_eq_true rfl) (Nat.le_of_ble_eq_true rfl) ?_
      rintro _ _ _ ⟨rfl, rfl, rfl⟩
      rw [e1]
      refine r_lstore (pc := 56) (i := 7) (tX1_eliminate.at 35 rfl) (by decide) ?_
      refine r_iload_n (pc := 58) (i := 3) (tX1_eliminate.at 36 rfl) rfl rfl ?_
      refine r_iconst (pc := 59) (w := nI 1) (tX1_eliminate.at 37 rfl) (by decide) ?_
      first | refine r_iaddN (pc := 60) (tX1_eliminate.at 38 rfl) ?_ | refine r_iaddZ (pc := 60) (tX1_eliminate.at 38 rfl) ?_ | refine r_iadd (pc := 60) (tX1_eliminate.at 38 rfl) ?_
      refine r_istore (pc := 61) (i := 9) (tX1_eliminate.at 39 rfl) (by decide) ?_
      refine key3 k hk hp hpv hp0 i hki (by omega) (fun C o7 o9 hC => ih (i + 1) C o7 o9 (by omega) (by omega) hC) (m - k) (k + 1) C (by omega) (by omega) (fun r c h1 h2 => ?_)
      rw [hC r c h1 h2]
      by_cases h3 : r < i
      · rw [if_pos h3, if_pos (Or.inl h3)]
      · rw [if_neg h3]
        split
        · rw [elm_s, if_neg (by omega)]
        · rfl
  have key1 : ∀ n k C o4 o6 o7 o9, k + n = m → (∀ t, t < k → elm A t t t ≠ 0) → inL (pvt A k) → pvt A k ≠ 0 → (∀ r c, r < m → c ≤ m → C (r * 7 + c) = elm A k r c) → J v mX1_eliminate (rmOf 2 0 0) (KM v Po noX 0 0) top 0 0 (eH v h q C U m) top 4 [some (.ref q), some (.long (lI (pvt A k))), none, some (.int (nI k)), o4, none, o6, o7, none, o9] [] := by
    intro n
    induction n with
    | zero =>
      intro k C o4 o6 o7 o9 hk hp hpv hp0 hC
      have hk : k = m := by omega
      subst hk
      refine r_iload_n (pc := 4) (i := 3) (tX1_eliminate.at 4 rfl) rfl rfl ?_
      refine r_aload_n (pc := 5) (i := 0) (tX1_eliminate.at 5 rfl) rfl rfl ?_
      refine r_get (pc := 6) (tX1_eliminate.at 6 rfl) gf_X1_22 (eH_0) rfl ?_
      refine r_icmp_geN (pc := 9) 125 (tX1_eliminate.at 7 rfl) (by decide) (by omega) (by omega) (fun _ => ?_) (fun c => by omega)
      refine r_iconst (pc := 125) (w := nI 1) (tX1_eliminate.at 71 rfl) (by decide) ?_
      refine r_zret (pc := 126) (tX1_eliminate.at 72 rfl) rfl (rfl) (Nat.le_of_ble_eq_true rfl) (Nat.le_of_ble_eq_true rfl) ?_
      subst hPost
      exact ⟨rfl, C, rfl, Or.inl ⟨rfl, hp, hC⟩⟩
    | succ n ih =>
      intro k C o4 o6 o7 o9 hk hp hpv hp0 hC
      have e1 : C (k * 7 + k) = elm A k k k := hC k k (by omega) (by omega)
      have e2 := ok.1 k (by omega) hp
      refine r_iload_n (pc := 4) (i := 3) (tX1_eliminate.at 4 rfl) rfl rfl ?_
      refine r_aload_n (pc := 5) (i := 0) (tX1_eliminate.at 5 rfl) rfl rfl ?_
      refine r_get (pc := 6) (tX1_eliminate.at 6 rfl) gf_X1_22 (eH_0) rfl ?_
      refine r_icmp_geN (pc := 9) 125 (tX1_eliminate.at 7 rfl) (by decide) (by omega) (by omega) (fun c => by omega) (fun _ => ?_)
      refine r_aload_n (pc := 12) (i := 0) (tX1_eliminate.at 8 rfl) rfl rfl ?_
      refine r_iload_n (pc := 13) (i := 3) (tX1_eliminate.at 9 rfl) rfl rfl ?_
      refine r_iload_n (pc := 14) (i := 3) (tX1_eliminate.at 10 rfl) rfl rfl ?_
      refine r_callV (M' := mX1_cell) (pc := 15) (tX1_eliminate.at 11 rfl) ml_X1_50 rfl mw_X1_cell ⟨by decide, by decide⟩ (eH_0) rfl rfl (c_cell (by omega)) rfl rfl (Nat.le_of_ble_eq_true rfl) (Nat.le_of_ble_eq_true rfl) (Nat.le_of_ble_eq_true rfl) ?_
      rintro _ _ _ ⟨rfl, rfl, rfl⟩
      rw [e1]
      refine r_lstore (pc := 18) (i := 4) (tX1_eliminate.at 12 rfl) (by decide) ?_
      refine r_lload (pc := 20) (i := 4) (tX1_eliminate.at 13 rfl) rfl ?_
      refine r_lconst (pc := 22) (w := lI 0) (tX1_eliminate.at 14 rfl) (by decide) ?_
      have fin : elm A k k k = 0 → Po (some (.int (nI 0))) (eH v h q C U m) top := by
        intro c
        subst hPost
        exact ⟨rfl, C, rfl, Or.inr ⟨rfl, k, by omega, c⟩⟩
      refine r_lc_eq (pc := 23) 33 (tX1_eliminate.at 15 rfl) (tX1_eliminate.at 16 rfl) (by decide) (e2) (⟨by omega, by omega⟩) (fun c => ?_) (fun c => ?_)
      · refine r_iconst (pc := 33) (w := nI 0) (tX1_eliminate.at 21 rfl) (by decide) ?_
        refine r_zret (pc := 34) (tX1_eliminate.at 22 rfl) rfl (rfl) (Nat.le_of_ble_eq_true rfl) (Nat.le_of_ble_eq_true rfl) ?_
        exact fin c
      · refine r_lload_n (pc := 27) (i := 1) (tX1_eliminate.at 17 rfl) rfl rfl ?_
        refine r_lconst (pc := 28) (w := lI 0) (tX1_eliminate.at 18 rfl) (by decide) ?_
        refine r_lc_ne (pc := 29) 35 (tX1_eliminate.at 19 rfl) (tX1_eliminate.at 20 rfl) (by decide) (hpv) (⟨by omega, by omega⟩) (fun _ => ?_) (fun c => by omega)
        have hp2 : ∀ t, t ≤ k → elm A t t t ≠ 0 := fun t ht => by
          by_cases e : t = k
          · rw [e]; exact c
          · exact hp t (by omega)
        refine r_iload_n (pc := 35) (i := 3) (tX1_eliminate.at 23 rfl) rfl rfl ?_
        refine r_iconst (pc := 36) (w := nI 1) (tX1_eliminate.at 24 rfl) (by decide) ?_
        first | refine r_iaddN (pc := 37) (tX1_eliminate.at 25 rfl) ?_ | refine r_iaddZ (pc := 37) (tX1_eliminate.at 25 rfl) ?_ | refine r_iadd (pc := 37) (tX1_eliminate.at 25 rfl) ?_
        refine r_istore (pc := 38) (i := 6) (tX1_eliminate.at 26 rfl) (by decide) ?_
        refine key2 k (by omega) hp2 hpv hp0 (fun C o6 o7 o9 hC => ih (k + 1) C _ o6 o7 o9 (by omega) (fun t ht => hp2 t (by omega)) e2 c hC) (m - (k + 1)) (k + 1) C o7 o9 (by omega) (by omega) (fun r c h1 h2 => ?_)
        rw [hC r c h1 h2]
        split
        · rw [elm_s, if_neg (by omega)]
        · rfl
  exact key1 m 0 C _ _ _ _ (by omega) (fun t ht => by omega) ⟨by show (-9223372036854775808 : Int) ≤ 1; omega, by show (1 : Int) ≤ 9223372036854775807; omega⟩ (by show (1 : Int) ≠ 0; omega) hA
/-- the fraction that solving puts -/
def slA (A : Nat → Nat → Int) (m : Nat) : Int := if ∀ t, t < m → elm A t t t ≠ 0 then rdA (elm A m (m - 1) m) (elm A m (m - 1) (m - 1)) else rdA 0 1
def slB (A : Nat → Nat → Int) (m : Nat) : Int := if ∀ t, t < m → elm A t t t ≠ 0 then rdB (elm A m (m - 1) m) (elm A m (m - 1) (m - 1)) else rdB 0 1
theorem c_solve {v : Ev} {h : Hp} {top q g ga f S w k : Nat} {G : GT} {C Gn : Nat → Int} {U : Nat → Nat} {a b : Int} (hg : isG v h g G) (hd : g + 6 ≤ q ∨ q + 4 ≤ g) (hga : ∀ C U k, eH v h q C U k ga = some (aJ v 6 (lF Gn))) (hf : h f = some (frE a b)) (hfd : f < q ∨ q + 4 ≤ f) (hn : G.n ≤ 6) (hS : S < 64) (hw : w < G.n) (hW : ∀ k, k < 36 → G.W k ≤ 1000000)
    (ok : okA (aug G.W G.n Gn (unkL S w G.n)) (unkL S w G.n).length) :
    Cal v mX1_solve 4 0 0 [.ref q, .ref g, .int (nI S), .int (nI w), .ref ga, .ref f] (eH v h q C U k) top (fun r h' top' => r = none ∧ top = top' ∧ ∃ C' U' k', h' = eH v (hp h f (frE (slA (aug G.W G.n Gn (unkL S w G.n)) (unkL S w G.n).length) (slB (aug G.W G.n Gn (unkL S w G.n)) (unkL S w G.n).length))) q C' U' k') noX := by
  have hl := unkL_len (S := S) hw
  refine Cal.ofJ (by decide +kernel) rfl (Nat.le_of_ble_eq_true rfl) fun hz0 => ?_
  refine r_ls [some (.ref q), some (.ref g), some (.int (nI S)), some (.int (nI w)), some (.ref ga), some (.ref f)] rfl ?_
  generalize hm : (unkL S w G.n).length = m at *
  refine r_aload_n (pc := 0) (i := 0) (tX1_solve.at 0 rfl) rfl rfl ?_
  refine r_aload_n (pc := 1) (i := 1) (tX1_solve.at 1 rfl) rfl rfl ?_
  refine r_iload_n (pc := 2) (i := 2) (tX1_solve.at 2 rfl) rfl rfl ?_
  refine r_iload_n (pc := 3) (i := 3) (tX1_solve.at 3 rfl) rfl rfl ?_
  refine r_aload (pc := 4) (i := 4) (tX1_solve.at 4 rfl) rfl ?_
  refine r_callV (M' := mX1_build) (pc := 6) (tX1_solve.at 5 rfl) ml_X1_42 rfl mw_X1_build ⟨by decide, by decide⟩ (eH_0) rfl rfl (c_build hg hd hga hn hS hw hW) rfl rfl (Nat.le_of_ble_eq_true rfl) (Nat.le_of_ble_eq_true rfl) (Nat.le_of_ble_eq_true rfl) ?_
  rintro _ _ _ ⟨rfl, rfl, C1, U1, rfl, hC1⟩
  rw [hm] at hC1 ⊢
  refine r_aload_n (pc := 9) (i := 0) (tX1_solve.at 6 rfl) rfl rfl ?_
  refine r_callV (M' := mX1_eliminate) (pc := 10) (tX1_solve.at 7 rfl) ml_X1_46 rfl mw_X1_eliminate ⟨by decide, by decide⟩ (eH_0) rfl rfl (c_elim (by omega) hC1 ok) rfl rfl (Nat.le_of_ble_eq_true rfl) (Nat.le_of_ble_eq_true rfl) (Nat.le_of_ble_eq_true rfl) ?_
  rintro _ _ _ ⟨rfl, C2, rfl, hor⟩
  rcases hor with ⟨rfl, h1, h2⟩ | ⟨rfl, h1⟩
  · have e1 : slA (aug G.W G.n Gn (unkL S w G.n)) m = rdA (C2 ((m - 1) * 7 + m)) (C2 ((m - 1) * 7 + (m - 1))) := by rw [slA, if_pos h1, h2 _ _ (by omega) (by omega), h2 _ _ (by omega) (by omega)]
    have e2 : slB (aug G.W G.n Gn (unkL S w G.n)) m = rdB (C2 ((m - 1) * 7 + m)) (C2 ((m - 1) * 7 + (m - 1))) := by rw [slB, if_pos h1, h2 _ _ (by omega) (by omega), h2 _ _ (by omega) (by omega)]
    have b1 := ok.2.2.1 h1
    have b2 := ok.2.2.2 h1
    rw [← h2 _ _ (by omega) (by omega)] at b1 b2
    rw [e1, e2]
    refine r_eq rfl (st2 := [.int (nI 1)]) rfl ?_
    refine r_if_eqN (pc := 13) 54 (tX1_solve.at 8 rfl) (by decide) (by omega) (fun c => by omega) (fun _ => ?_)
    refine r_aload (pc := 16) (i := 5) (tX1_solve.at 9 rfl) rfl ?_
    refine r_aload_n (pc := 18) (i := 0) (tX1_solve.at 10 rfl) rfl rfl ?_
    refine r_aload_n (pc := 19) (i := 0) (tX1_solve.at 11 rfl) rfl rfl ?_
    refine r_get (pc := 20) (tX1_solve.at 12 rfl) gf_X1_22 (eH_0) rfl ?_
    refine r_iconst (pc := 23) (w := nI 1) (tX1_solve.at 13 rfl) (by decide) ?_
    first | refine r_isubN (pc := 24) (tX1_solve.at 14 rfl) (by omega) ?_ | refine r_isubZ (pc := 24) (tX1_solve.at 14 rfl) ?_ | refine r_isub (pc := 24) (tX1_solve.at 14 rfl) ?_
    refine r_aload_n (pc := 25) (i := 0) (tX1_solve.at 15 rfl) rfl rfl ?_
    refine r_get (pc := 26) (tX1_solve.at 16 rfl) gf_X1_22 (eH_0) rfl ?_
    refine r_callV (M' := mX1_cell) (pc := 29) (tX1_solve.at 17 rfl) ml_X1_50 rfl mw_X1_cell ⟨by decide, by decide⟩ (eH_0) rfl rfl (c_cell (i := m - 1) (j := m) (by omega)) rfl rfl (Nat.le_of_ble_eq_true rfl) (Nat.le_of_ble_eq_true rfl) (Nat.le_of_ble_eq_true rfl) ?_
    rintro _ _ _ ⟨rfl, rfl, rfl⟩
    refine r_aload_n (pc := 32) (i := 0) (tX1_solve.at 18 rfl) rfl rfl ?_
    refine r_aload_n (pc := 33) (i := 0) (tX1_solve.at 19 rfl) rfl rfl ?_
    refine r_get (pc := 34) (tX1_solve.at 20 rfl) gf_X1_22 (eH_0) rfl ?_
    refine r_iconst (pc := 37) (w := nI 1) (tX1_solve.at 21 rfl) (by decide) ?_
    first | refine r_isubN (pc := 38) (tX1_solve.at 22 rfl) (by omega) ?_ | refine r_isubZ (pc := 38) (tX1_solve.at 22 rfl) ?_ | refine r_isub (pc := 38) (tX1_solve.at 22 rfl) ?_
    refine r_aload_n (pc := 39) (i := 0) (tX1_solve.at 23 rfl) rfl rfl ?_
    refine r_get (pc := 40) (tX1_solve.at 24 rfl) gf_X1_22 (eH_0) rfl ?_
    refine r_iconst (pc := 43) (w := nI 1) (tX1_solve.at 25 rfl) (by decide) ?_
    first | refine r_isubN (pc := 44) (tX1_solve.at 26 rfl) (by omega) ?_ | refine r_isubZ (pc := 44) (tX1_solve.at 26 rfl) ?_ | refine r_isub (pc := 44) (tX1_solve.at 26 rfl) ?_
    refine r_callV (M' := mX1_cell) (pc := 45) (tX1_solve.at 27 rfl) ml_X1_50 rfl mw_X1_cell ⟨by decide, by decide⟩ (eH_0) rfl rfl (c_cell (i := m - 1) (j := m - 1) (by omega)) rfl rfl (Nat.le_of_ble_eq_true rfl) (Nat.le_of_ble_eq_true rfl) (Nat.le_of_ble_eq_true rfl) ?_
    rintro _ _ _ ⟨rfl, rfl, rfl⟩
    refine r_callV (M' := mX2_put) (pc := 48) (tX1_solve.at 28 rfl) ml_X1_26 rfl mw_X2_put ⟨by decide, by decide⟩ ((eH_out hfd).trans hf) rfl rfl (c_frPut ((eH_out hfd).trans hf) b2 b1) rfl rfl (Nat.le_of_ble_eq_true rfl) (Nat.le_of_ble_eq_true rfl) (Nat.le_of_ble_eq_true rfl) ?_
    rintro _ _ _ ⟨rfl, rfl, rfl⟩
    refine r_goto (pc := 51) 61 (tX1_solve.at 29 rfl) (by decide) ?_
    rw [eH_put hfd]
    refine r_vret (pc := 61) (tX1_solve.at 34 rfl) rfl (Nat.le_of_ble_eq_true rfl) (Nat.le_of_ble_eq_true rfl) ?_
    exact ⟨rfl, rfl, C2, U1, m, rfl⟩
  · have hnn : ¬ ∀ t, t < m → elm (aug G.W G.n Gn (unkL S w G.n)) t t t ≠ 0 := fun z => by
      obtain ⟨t, h3, h4⟩ := h1
      exact z t h3 h4
    have e1 : slA (aug G.W G.n Gn (unkL S w G.n)) m = rdA 0 1 := by rw [slA, if_neg hnn]
    have e2 : slB (aug G.W G.n Gn (unkL S w G.n)) m = rdB 0 1 := by rw [slB, if_neg hnn]
    rw [e1, e2]
    refine r_eq rfl (st2 := [.int (nI 0)]) rfl ?_
    refine r_if_eqN (pc := 13) 54 (tX1_solve.at 8 rfl) (by decide) (by omega) (fun _ => ?_) (fun c => by omega)
    refine r_aload (pc := 54) (i := 5) (tX1_solve.at 30 rfl) rfl ?_
    refine r_lconst (pc := 56) (w := lI 0) (tX1_solve.at 31 rfl) (by decide) ?_
    refine r_lconst (pc := 57) (w := lI 1) (tX1_solve.at 32 rfl) (by decide) ?_
    refine r_callV (M' := mX2_put) (pc := 58) (tX1_solve.at 33 rfl) ml_X1_26 rfl mw_X2_put ⟨by decide, by decide⟩ ((eH_out hfd).trans hf) rfl rfl (c_frPut (n := 0) (d := 1) ((eH_out hfd).trans hf) (by omega) (by omega)) rfl rfl (Nat.le_of_ble_eq_true rfl) (Nat.le_of_ble_eq_true rfl) (Nat.le_of_ble_eq_true rfl) ?_
    rintro _ _ _ ⟨rfl, rfl, rfl⟩
    rw [eH_put hfd]
    refine r_vret (pc := 61) (tX1_solve.at 34 rfl) rfl (Nat.le_of_ble_eq_true rfl) (Nat.le_of_ble_eq_true rfl) ?_
    exact ⟨rfl, rfl, C2, U1, m, rfl⟩
/-- what is in one set but not in another -/
def dif (S T : Nat) : Nat := S &&& (63 ^^^ T)
theorem bs_dif : ∀ S, S < 64 → ∀ T, T < 64 → (nI S &&& (nI T ^^^ zI (-1))) = nI (dif S T) := by decide +kernel
theorem dif_lt {S T : Nat} (hS : S < 64) : dif S T < 64 := Nat.lt_of_le_of_lt Nat.and_le_left hS
theorem bs_all : ∀ n, n < 7 → (nI (2 ^ n - 1) &&& zI (-2)) = nI (2 ^ n - 2) := by decide +kernel
/-- what meanUntil puts -/
def muS (W : Nat → Nat) (n x y : Nat) : Nat := dif (rch W n x) (2 ^ y)
def muM (W : Nat → Nat) (n x y : Nat) (Gn : Nat → Int) : Nat → Nat → Int := aug W n Gn (unkL (muS W n x y) x n)
def muK (W : Nat → Nat) (n x y : Nat) : Nat := (unkL (muS W n x y) x n).length
def muA (W : Nat → Nat) (n x y : Nat) (Gn : Nat → Int) : Int := if x = y then rdA 0 1 else slA (muM W n x y Gn) (muK W n x y)
def muB (W : Nat → Nat) (n x y : Nat) (Gn : Nat → Int) : Int := if x = y then rdB 0 1 else slB (muM W n x y Gn) (muK W n x y)
theorem c_mean {v : Ev} {h : Hp} {top q g ga f x y k : Nat} {G : GT} {C Gn : Nat → Int} {U : Nat → Nat} {a b : Int} (hg : isG v h g G) (hd : g + 6 ≤ q ∨ q + 4 ≤ g) (hga : ∀ C U k, eH v h q C U k ga = some (aJ v 6 (lF Gn))) (hf : h f = some (frE a b)) (hfd : f < q ∨ q + 4 ≤ f) (hn : G.n ≤ 6) (hx : x < G.n) (hy : y < G.n) (hW : ∀ k, k < 36 → G.W k ≤ 1000000)
    (ok : x ≠ y → okA (muM G.W G.n x y Gn) (muK G.W G.n x y)) :
    Cal v mX1_meanUntil 5 0 0 [.ref q, .ref g, .int (nI x), .int (nI y), .ref ga, .ref f] (eH v h q C U k) top (fun r h' top' => r = none ∧ top = top' ∧ ∃ C' U' k', h' = eH v (hp h f (frE (muA G.W G.n x y Gn) (muB G.W G.n x y Gn))) q C' U' k') noX := by
  have gG : ∀ C U k, isG v (eH v h q C U k) g G := fun C U k => eH_G hg hd
  refine Cal.ofJ (by decide +kernel) rfl (Nat.le_of_ble_eq_true rfl) fun hz0 => ?_
  refine r_ls [some (.ref q), some (.ref g), some (.int (nI x)), some (.int (nI y)), some (.ref ga), some (.ref f)] rfl ?_
  refine r_iload_n (pc := 0) (i := 2) (tX1_meanUntil.at 0 rfl) rfl rfl ?_
  refine r_iload_n (pc := 1) (i := 3) (tX1_meanUntil.at 1 rfl) rfl rfl ?_
  refine r_icmp_neN (pc := 2) 15 (tX1_meanUntil.at 2 rfl) (by decide) (by omega) (by omega) (fun c => ?_) (fun c => ?_)
  · have e1 : muA G.W G.n x y Gn = slA (muM G.W G.n x y Gn) (muK G.W G.n x y) := by rw [muA, if_neg c]
    have e2 : muB G.W G.n x y Gn = slB (muM G.W G.n x y Gn) (muK G.W G.n x y) := by rw [muB, if_neg c]
    have h1 : rch G.W G.n x < 64 := Nat.lt_of_lt_of_le (rch_lt hx) (p64 hn)
    have h2 : 2 ^ y < 64 := Nat.lt_of_lt_of_le (Nat.pow_lt_pow_right (by omega) (show y < 6 by omega)) (by decide)
    rw [e1, e2]
    refine r_aload_n (pc := 15) (i := 0) (tX1_meanUntil.at 8 rfl) rfl rfl ?_
    refine r_aload_n (pc := 16) (i := 1) (tX1_meanUntil.at 9 rfl) rfl rfl ?_
    refine r_aload_n (pc := 17) (i := 1) (tX1_meanUntil.at 10 rfl) rfl rfl ?_
    refine r_iload_n (pc := 18) (i := 2) (tX1_meanUntil.at 11 rfl) rfl rfl ?_
    refine r_callV (M' := mX3_component) (pc := 19) (tX1_meanUntil.at 12 rfl) ml_X1_32 rfl mw_X3_component ⟨by decide, by decide⟩ ((gG _ _ _).1) rfl rfl (c_comp (gG _ _ _) hn hx (fun k hk => by have := hW k hk; omega)) rfl rfl (Nat.le_of_ble_eq_true rfl) (Nat.le_of_ble_eq_true rfl) (Nat.le_of_ble_eq_true rfl) ?_
    rintro _ _ _ ⟨rfl, rfl, rfl⟩
    refine r_iconst (pc := 22) (w := nI 1) (tX1_meanUntil.at 13 rfl) (by decide) ?_
    refine r_iload_n (pc := 23) (i := 3) (tX1_meanUntil.at 14 rfl) rfl rfl ?_
    refine r_ishl (pc := 24) (tX1_meanUntil.at 15 rfl) ?_
    rw [bs_one y (by omega)]
    refine r_iconst (pc := 25) (w := zI (-1)) (tX1_meanUntil.at 16 rfl) (by decide) ?_
    refine r_ixor (pc := 26) (tX1_meanUntil.at 17 rfl) ?_
    refine r_iand (pc := 27) (tX1_meanUntil.at 18 rfl) ?_
    rw [bs_dif _ h1 _ h2]
    refine r_iload_n (pc := 28) (i := 2) (tX1_meanUntil.at 19 rfl) rfl rfl ?_
    refine r_aload (pc := 29) (i := 4) (tX1_meanUntil.at 20 rfl) rfl ?_
    refine r_aload (pc := 31) (i := 5) (tX1_meanUntil.at 21 rfl) rfl ?_
    refine r_callV (M' := mX1_solve) (pc := 33) (tX1_meanUntil.at 22 rfl) ml_X1_38 rfl mw_X1_solve ⟨by decide, by decide⟩ (eH_0) rfl rfl (c_solve hg hd hga hf hfd hn (dif_lt h1) hx hW (ok c)) rfl rfl (Nat.le_of_ble_eq_true rfl) (Nat.le_of_ble_eq_true rfl) (Nat.le_of_ble_eq_true rfl) ?_
    rintro _ _ _ ⟨rfl, rfl, C1, U1, k1, rfl⟩
    refine r_vret (pc := 36) (tX1_meanUntil.at 23 rfl) rfl (Nat.le_of_ble_eq_true rfl) (Nat.le_of_ble_eq_true rfl) ?_
    exact ⟨rfl, rfl, C1, U1, k1, rfl⟩
  · have e1 : muA G.W G.n x y Gn = rdA 0 1 := by rw [muA, if_pos c]
    have e2 : muB G.W G.n x y Gn = rdB 0 1 := by rw [muB, if_pos c]
    rw [e1, e2]
    refine r_aload (pc := 5) (i := 5) (tX1_meanUntil.at 3 rfl) rfl ?_
    refine r_lconst (pc := 7) (w := lI 0) (tX1_meanUntil.at 4 rfl) (by decide) ?_
    refine r_lconst (pc := 8) (w := lI 1) (tX1_meanUntil.at 5 rfl) (by decide) ?_
    refine r_callV (M' := mX2_put) (pc := 9) (tX1_meanUntil.at 6 rfl) ml_X1_26 rfl mw_X2_put ⟨by decide, by decide⟩ ((eH_out hfd).trans hf) rfl rfl (c_frPut (n := 0) (d := 1) ((eH_out hfd).trans hf) (by omega) (by omega)) rfl rfl (Nat.le_of_ble_eq_true rfl) (Nat.le_of_ble_eq_true rfl) (Nat.le_of_ble_eq_true rfl) ?_
    rintro _ _ _ ⟨rfl, rfl, rfl⟩
    refine r_goto (pc := 12) 36 (tX1_meanUntil.at 7 rfl) (by decide) ?_
    rw [eH_put hfd]
    refine r_vret (pc := 36) (tX1_meanUntil.at 23 rfl) rfl (Nat.le_of_ble_eq_true rfl) (Nat.le_of_ble_eq_true rfl) ?_
    exact ⟨rfl, rfl, C, U, k, rfl⟩
def trM (W : Nat → Nat) (n : Nat) : Nat → Nat → Int := aug W n (fun _ => 0) (unkL (2 ^ n - 2) 1 n)
def trK (n : Nat) : Nat := (unkL (2 ^ n - 2) 1 n).length
def trV (W : Nat → Nat) (n : Nat) : Int := if ∀ t, t < trK n → elm (trM W n) t t t ≠ 0 then elm (trM W n) (trK n) (trK n - 1) (trK n - 1) else 0
theorem c_treesOf {v : Ev} {h : Hp} {top q g k : Nat} {G : GT} {C : Nat → Int} {U : Nat → Nat} (hg : isG v h g G) (hd : g + 6 ≤ q ∨ q + 4 ≤ g) (hn : 2 ≤ G.n ∧ G.n ≤ 6) (hW : ∀ k, k < 36 → G.W k ≤ 1000000) (ok : okA (trM G.W G.n) (trK G.n)) :
    Cal v mX1_treesOf 4 0 0 [.ref q, .ref g] (eH v h q C U k) top (fun r h' top' => r = some (.long (lI (trV G.W G.n))) ∧ top = top' ∧ ∃ C' U' k', h' = eH v h q C' U' k') noX := by
  have gG : ∀ C U k, isG v (eH v h q C U k) g G := fun C U k => eH_G hg hd
  have hl := unkL_len (S := 2 ^ G.n - 2) (w := 1) (n := G.n) (by omega)
  have h64 := p64 hn.2
  refine Cal.ofJ (by decide +kernel) rfl (Nat.le_of_ble_eq_true rfl) fun hz0 => ?_
  refine r_ls [some (.ref q), some (.ref g), none] rfl ?_
  have h1p : 1 ≤ 2 ^ G.n := Nat.one_le_two_pow
  refine r_iconst (pc := 0) (w := nI 1) (tX1_treesOf.at 0 rfl) (by decide) ?_
  refine r_aload_n (pc := 1) (i := 1) (tX1_treesOf.at 1 rfl) rfl rfl ?_
  refine r_get (pc := 2) (tX1_treesOf.at 2 rfl) gf_X1_54 ((gG _ _ _).1) rfl ?_
  refine r_ishl (pc := 5) (tX1_treesOf.at 3 rfl) ?_
  rw [bs_one G.n (by omega)]
  refine r_iconst (pc := 6) (w := nI 1) (tX1_treesOf.at 4 rfl) (by decide) ?_
  first | refine r_isubN (pc := 7) (tX1_treesOf.at 5 rfl) (by omega) ?_ | refine r_isubZ (pc := 7) (tX1_treesOf.at 5 rfl) ?_ | refine r_isub (pc := 7) (tX1_treesOf.at 5 rfl) ?_
  refine r_istore_n (pc := 8) (i := 2) (tX1_treesOf.at 6 rfl) rfl (by decide) ?_
  refine r_aload_n (pc := 9) (i := 0) (tX1_treesOf.at 7 rfl) rfl rfl ?_
  refine r_aload_n (pc := 10) (i := 1) (tX1_treesOf.at 8 rfl) rfl rfl ?_
  refine r_iload_n (pc := 11) (i := 2) (tX1_treesOf.at 9 rfl) rfl rfl ?_
  refine r_bipush (pc := 12) (w := zI (-2)) (tX1_treesOf.at 10 rfl) (by decide) ?_
  refine r_iand (pc := 14) (tX1_treesOf.at 11 rfl) ?_
  rw [bs_all G.n (by omega)]
  generalize hm : (unkL (2 ^ G.n - 2) 1 G.n).length = m at *
  have hk : trK G.n = m := hm
  refine r_iconst (pc := 15) (w := nI 1) (tX1_treesOf.at 12 rfl) (by decide) ?_
  refine r_aload_n (pc := 16) (i := 0) (tX1_treesOf.at 13 rfl) rfl rfl ?_
  refine r_get (pc := 17) (tX1_treesOf.at 14 rfl) gf_X1_19 (eH_0) rfl ?_
  refine r_callV (M' := mX1_build) (pc := 20) (tX1_treesOf.at 15 rfl) ml_X1_42 rfl mw_X1_build ⟨by decide, by decide⟩ (eH_0) rfl rfl (c_build (Gn := fun _ => 0) hg hd (fun C U k => eH_3) hn.2 (by omega) (by omega) hW) rfl rfl (Nat.le_of_ble_eq_true rfl) (Nat.le_of_ble_eq_true rfl) (Nat.le_of_ble_eq_true rfl) ?_
  rintro _ _ _ ⟨rfl, rfl, C1, U1, rfl, hC1⟩
  rw [hm] at hC1 ⊢
  rw [hk] at ok
  refine r_aload_n (pc := 23) (i := 0) (tX1_treesOf.at 16 rfl) rfl rfl ?_
  refine r_callV (M' := mX1_eliminate) (pc := 24) (tX1_treesOf.at 17 rfl) ml_X1_46 rfl mw_X1_eliminate ⟨by decide, by decide⟩ (eH_0) rfl rfl (c_elim (A := trM G.W G.n) (by omega) hC1 ok) rfl rfl (Nat.le_of_ble_eq_true rfl) (Nat.le_of_ble_eq_true rfl) (Nat.le_of_ble_eq_true rfl) ?_
  rintro _ _ _ ⟨rfl, C2, rfl, hor⟩
  rcases hor with ⟨rfl, h1, h2⟩ | ⟨rfl, h1⟩
  · have e1 : trV G.W G.n = C2 ((m - 1) * 7 + (m - 1)) := by rw [trV, hk, if_pos h1, h2 _ _ (by omega) (by omega)]
    rw [e1]
    refine r_eq rfl (st2 := [.int (nI 1)]) rfl ?_
    refine r_if_eqN (pc := 27) 49 (tX1_treesOf.at 18 rfl) (by decide) (by omega) (fun c => by omega) (fun _ => ?_)
    refine r_aload_n (pc := 30) (i := 0) (tX1_treesOf.at 19 rfl) rfl rfl ?_
    refine r_aload_n (pc := 31) (i := 0) (tX1_treesOf.at 20 rfl) rfl rfl ?_
    refine r_get (pc := 32) (tX1_treesOf.at 21 rfl) gf_X1_22 (eH_0) rfl ?_
    refine r_iconst (pc := 35) (w := nI 1) (tX1_treesOf.at 22 rfl) (by decide) ?_
    first | refine r_isubN (pc := 36) (tX1_treesOf.at 23 rfl) (by omega) ?_ | refine r_isubZ (pc := 36) (tX1_treesOf.at 23 rfl) ?_ | refine r_isub (pc := 36) (tX1_treesOf.at 23 rfl) ?_
    refine r_aload_n (pc := 37) (i := 0) (tX1_treesOf.at 24 rfl) rfl rfl ?_
    refine r_get (pc := 38) (tX1_treesOf.at 25 rfl) gf_X1_22 (eH_0) rfl ?_
    refine r_iconst (pc := 41) (w := nI 1) (tX1_treesOf.at 26 rfl) (by decide) ?_
    first | refine r_isubN (pc := 42) (tX1_treesOf.at 27 rfl) (by omega) ?_ | refine r_isubZ (pc := 42) (tX1_treesOf.at 27 rfl) ?_ | refine r_isub (pc := 42) (tX1_treesOf.at 27 rfl) ?_
    refine r_callV (M' := mX1_cell) (pc := 43) (tX1_treesOf.at 28 rfl) ml_X1_50 rfl mw_X1_cell ⟨by decide, by decide⟩ (eH_0) rfl rfl (c_cell (i := m - 1) (j := m - 1) (by omega)) rfl rfl (Nat.le_of_ble_eq_true rfl) (Nat.le_of_ble_eq_true rfl) (Nat.le_of_ble_eq_true rfl) ?_
    rintro _ _ _ ⟨rfl, rfl, rfl⟩
    refine r_goto (pc := 46) 50 (tX1_treesOf.at 29 rfl) (by decide) ?_
    refine r_lret (pc := 50) (tX1_treesOf.at 31 rfl) rfl (Nat.le_of_ble_eq_true rfl) (Nat.le_of_ble_eq_true rfl) ?_
    exact ⟨rfl, rfl, C2, U1, m, rfl⟩
  · have hnn : ¬ ∀ t, t < m → elm (trM G.W G.n) t t t ≠ 0 := fun z => by
      obtain ⟨t, h3, h4⟩ := h1
      exact z t h3 h4
    have e1 : trV G.W G.n = 0 := by rw [trV, hk, if_neg hnn]
    rw [e1]
    refine r_eq rfl (st2 := [.int (nI 0)]) rfl ?_
    refine r_if_eqN (pc := 27) 49 (tX1_treesOf.at 18 rfl) (by decide) (by omega) (fun _ => ?_) (fun c => by omega)
    refine r_lconst (pc := 49) (w := lI 0) (tX1_treesOf.at 30 rfl) (by decide) ?_
    refine r_lret (pc := 50) (tX1_treesOf.at 31 rfl) rfl (Nat.le_of_ble_eq_true rfl) (Nat.le_of_ble_eq_true rfl) ?_
    exact ⟨rfl, rfl, C2, U1, m, rfl⟩
theorem c_eqInit {v : Ev} {h : Hp} {q : Nat} (hq : h q = some (ob 1 [.null, .null, .null, .int 0])) : Cal v mX1_init 1 3 54 [.ref q] h (q + 1) (pT (eH v h q (fun _ => 0) (fun _ => 0) 0) (q + 4)) noX := by
  refine Cal.ofJ (by decide +kernel) rfl (Nat.le_of_ble_eq_true rfl) fun hz0 => ?_
  refine r_ls [some (.ref q)] rfl ?_
  refine r_aload_n (pc := 0) (i := 0) (tX1_init.at 0 rfl) rfl rfl ?_
  refine r_objInit (pc := 1) (tX1_init.at 1 rfl) ml_X1_3 oi_inst oi_code (Nat.le_of_ble_eq_true rfl) (Nat.le_of_ble_eq_true rfl) ?_
  refine r_aload_n (pc := 4) (i := 0) (tX1_init.at 2 rfl) rfl rfl ?_
  refine r_bipush (pc := 5) (w := nI 42) (tX1_init.at 3 rfl) (by decide) ?_
  refine r_newaJ (pc := 7) (42) (tX1_init.at 4 rfl) (rfl) (Nat.le_of_ble_eq_true rfl) ac_long (Nat.le_of_ble_eq_true rfl) (Nat.le_of_ble_eq_true rfl) (fun fr7 => ?_)
  refine r_putF (pc := 9) (tX1_init.at 5 rfl) pff_X1_11 rfl ((hp_ne _ _ (by omega)).trans hq) (Nat.le_of_ble_eq_true rfl) rfl rfl ?_
  refine r_aload_n (pc := 12) (i := 0) (tX1_init.at 6 rfl) rfl rfl ?_
  refine r_bipush (pc := 13) (w := nI 6) (tX1_init.at 7 rfl) (by decide) ?_
  refine r_newaI (pc := 15) (6) (tX1_init.at 8 rfl) (rfl) (Nat.le_of_ble_eq_true rfl) ac_int (Nat.le_of_ble_eq_true rfl) (Nat.le_of_ble_eq_true rfl) (fun fr15 => ?_)
  refine r_putF (pc := 17) (tX1_init.at 9 rfl) pff_X1_15 rfl ((hp_ne _ _ (by omega)).trans (hp_eq _ _ _)) (Nat.le_of_ble_eq_true rfl) rfl rfl ?_
  refine r_aload_n (pc := 20) (i := 0) (tX1_init.at 10 rfl) rfl rfl ?_
  refine r_bipush (pc := 21) (w := nI 6) (tX1_init.at 11 rfl) (by decide) ?_
  refine r_newaJ (pc := 23) (6) (tX1_init.at 12 rfl) (rfl) (Nat.le_of_ble_eq_true rfl) ac_long (Nat.le_of_ble_eq_true rfl) (Nat.le_of_ble_eq_true rfl) (fun fr23 => ?_)
  refine r_putF (pc := 25) (tX1_init.at 13 rfl) pff_X1_19 rfl ((hp_ne _ _ (by omega)).trans (hp_eq _ _ _)) (Nat.le_of_ble_eq_true rfl) rfl rfl ?_
  refine r_aload_n (pc := 28) (i := 0) (tX1_init.at 14 rfl) rfl rfl ?_
  refine r_iconst (pc := 29) (w := nI 0) (tX1_init.at 15 rfl) (by decide) ?_
  refine r_put (pc := 30) (tX1_init.at 16 rfl) pf_X1_22 (hp_eq _ _ _) (Nat.le_of_ble_eq_true rfl) (rfl) (rfl) ?_
  refine r_vret (pc := 33) (tX1_init.at 17 rfl) rfl (Nat.le_of_ble_eq_true rfl) (Nat.le_of_ble_eq_true rfl) ?_
  refine ⟨rfl, (eH_ext ?_ ?_ ?_ ?_ ?_).symm, rfl⟩
  · simp [hp]
    rfl
  · simp [hp]
    rfl
  · simp [hp]
    rfl
  · simp [hp]
    rfl
  · intro a ha
    simp [hp, show a ≠ q by omega, show a ≠ q + 1 by omega, show a ≠ q + 1 + 1 by omega, show a ≠ q + 1 + 1 + 1 by omega]

