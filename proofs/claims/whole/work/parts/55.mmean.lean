/-! ===== the reference: equations ===== -/
/-- the first of n that p takes, upwards -/
def ascL (p : Nat → Bool) : Nat → List Nat
  | 0 => []
  | x + 1 => if p x = true then ascL p x ++ [x] else ascL p x
def lpl (W : Nat → Nat) (n x y : Nat) : Int := if y = x then (degN W x n : Nat) else -((W (x * 6 + y) : Nat) : Int)
def rMt (W : Nat → Nat) (n : Nat) (l : List Nat) (g : Nat → Int) (z : Int) : Nat → Nat → Int := fun i j => if (j : Int) = z then g (l.getD i 0) else lpl W n (l.getD i 0) (l.getD j 0)
theorem asc_le (p : Nat → Bool) : ∀ n, (ascL p n).length ≤ n
  | 0 => Nat.le_refl _
  | n + 1 => by
    have := asc_le p n
    rw [ascL]
    split
    · rw [List.length_append]
      simp
      omega
    · omega
theorem asc_mono (p : Nat → Bool) {x : Nat} : ∀ n, x ≤ n → (ascL p x).length ≤ (ascL p n).length
  | 0, h => by rw [show x = 0 by omega]; exact Nat.le_refl _
  | n + 1, h => by
    by_cases c : x = n + 1
    · rw [c]; exact Nat.le_refl _
    · have := asc_mono p (x := x) n (by omega)
      rw [ascL]
      split
      · rw [List.length_append]
        omega
      · omega
theorem asc_lt (p : Nat → Bool) {x n : Nat} (h : x < n) (hp : p x = true) : (ascL p x).length < (ascL p n).length := by
  have h1 := asc_mono p (x := x + 1) n h
  rw [ascL, if_pos hp, List.length_append] at h1
  simp at h1
  omega
theorem asc_inj (p : Nat → Bool) {x y : Nat} (hx : p x = true) (hy : p y = true) (h : (ascL p x).length = (ascL p y).length) : x = y := by
  rcases Nat.lt_trichotomy x y with q | q | q
  · have := asc_lt p q hx
    omega
  · exact q
  · have := asc_lt p q hy
    omega
theorem asc_get (p : Nat → Bool) {x : Nat} (hp : p x = true) : ∀ n, x < n → (ascL p n).getD (ascL p x).length 0 = x
  | 0, h => by omega
  | n + 1, h => by
    by_cases c : x = n
    · subst c
      rw [ascL, if_pos hp]
      simp
    · have h1 := asc_get p hp n (by omega)
      have h2 := asc_lt p (show x < n by omega) hp
      rw [ascL]
      split
      · have e : (ascL p n ++ [n]).getD (ascL p x).length 0 = (ascL p n).getD (ascL p x).length 0 := by simp [List.getD, List.getElem?_append_left h2]
        exact e.trans h1
      · exact h1
theorem asc_sur (p : Nat → Bool) : ∀ n i, i < (ascL p n).length → ∃ x, x < n ∧ p x = true ∧ (ascL p x).length = i
  | 0, i, h => by simp [ascL] at h
  | n + 1, i, h => by
    rw [ascL] at h
    split at h
    · next c =>
      by_cases q : i < (ascL p n).length
      · obtain ⟨x, h1, h2, h3⟩ := asc_sur p n i q
        exact ⟨x, by omega, h2, h3⟩
      · rw [List.length_append] at h
        simp at h
        exact ⟨n, by omega, c, by omega⟩
    · obtain ⟨x, h1, h2, h3⟩ := asc_sur p n i h
      exact ⟨x, by omega, h2, h3⟩
/-- the matrix and the places -/
def mtS (S : MS) (W : Nat → Nat) (n : Nat) (p : Nat → Bool) (g : Nat → Int) : Prop := S.unk = (ascL p n).length ∧ (∀ x, x < n → S.pls x = if p x = true then ((ascL p x).length : Int) else -1) ∧ (∀ x y, x < n → y < n → p x = true → p y = true → S.mtx (7 * (ascL p x).length + (ascL p y).length) = lpl W n x y) ∧ ∀ x, x < n → p x = true → S.mtx (7 * (ascL p x).length + 6) = g x
theorem m7 {i j i2 j2 : Nat} (h1 : j < 7) (h2 : j2 < 7) : 7 * i + j = 7 * i2 + j2 ↔ i = i2 ∧ j = j2 := by omega
def pel (S S' : MS) : Prop := per S S' ∧ S'.thr = S.thr ∧ S'.wts = S.wts ∧ S'.cst = S.cst ∧ S'.dgs = S.dgs
theorem pel.ld {S S' : MS} {G : GT} {cn : Nat} {cc : Nat → Int} (k : pel S S') (l : lad S G cn cc) : lad S' G cn cc := by
  unfold lad
  rw [k.2.2.1, k.2.2.2.1, k.2.2.2.2]
  exact l
theorem pel.trans {A B C : MS} (h : pel A B) (k : pel B C) : pel A C := ⟨h.1.trans k.1, k.2.1.trans h.2.1, k.2.2.1.trans h.2.2.1, k.2.2.2.1.trans h.2.2.2.1, k.2.2.2.2.trans h.2.2.2.2⟩
/-- what the unknown ones are -/
def unP (A T : Nat) : Nat → Bool := fun x => A.testBit x && !T.testBit x
section
variable {v : Ev} {h : Hp} {top m : Nat} {S : MS} {G : GT} {cn : Nat} {cc : Nat → Int}
theorem c_mDetW {W : Nat → Nat} {n : Nat} {p : Nat → Bool} {g : Nat → Int} {z : Int} (ms : mtS S W n p g) (hn : n ≤ 6) (hz : -1 ≤ z ∧ z ≤ 5) (ok : okDt (ascL p n).length (ascL p n).length 0 (rMt W n (ascL p n) g z) 1) : Cal v mX11_determinantWith 2 0 0 [.ref m, .int (zI z)] (mH v h m S) top (fun r h' top' => r = some (.long (lI (dtS (ascL p n).length (ascL p n).length 0 (rMt W n (ascL p n) g z) 1 1))) ∧ top = top' ∧ ∃ q, h' = mH v h m (S.s_sqr q)) noX := by
  obtain ⟨ms1, ms2, ms3, ms4⟩ := ms
  have hl := asc_le p n
  have ent : ∀ i j, i < (ascL p n).length → j < (ascL p n).length → S.mtx (7 * i + (if (j : Int) = z then 6 else j)) = rMt W n (ascL p n) g z i j := by
    intro i j hi hj
    obtain ⟨x, x1, x2, x3⟩ := asc_sur p n i hi
    obtain ⟨y, y1, y2, y3⟩ := asc_sur p n j hj
    unfold rMt
    subst x3
    subst y3
    rw [asc_get p x2 n x1, asc_get p y2 n y1]
    split
    · exact ms4 x x1 x2
    · exact ms3 x y x1 y1 x2 y2
  generalize hA : rMt W n (ascL p n) g z = A at *
  generalize hN : (ascL p n).length = N at *
  refine Cal.ofJ (by decide +kernel) rfl (Nat.le_of_ble_eq_true rfl) fun hz0 => ?_
  refine r_ls [some (.ref m), some (.int (zI z)), none, none] rfl ?_
  generalize hPo : (fun (r : Option Value) (h' : Hp) (top' : Nat) => r = some (.long (lI (dtS N N 0 A 1 1))) ∧ top = top' ∧ ∃ q, h' = mH v h m (S.s_sqr q)) = Po
  have k1 : ∀ k r C o3, r + k = N → (∀ i j, i < r → j < N → C (6 * i + j) = A i j) → J v mX11_determinantWith (rmOf 2 0 0) (KM v Po noX 0 0) top 0 0 (mH v h m (S.s_sqr C)) top 2 [some (.ref m), some (.int (zI z)), some (.int (nI r)), o3] [] := by
    intro k
    induction k with
    | zero =>
      intro r C o3 hr hC
      have hr : r = N := by omega
      subst hr
      refine r_iload_n (pc := 2) (i := 2) (tX11_determinantWith.at 2 rfl) rfl rfl ?_
      refine r_aload_n (pc := 3) (i := 0) (tX11_determinantWith.at 3 rfl) rfl rfl ?_
      refine r_get (pc := 4) (tX11_determinantWith.at 4 rfl) gf_X11_235 (mH_0) rfl ?_
      refine r_eq rfl (st2 := [.int (nI r), .int (nI r)]) (by show [Value.int (nI S.unk), _] = _; rw [ms1]) ?_
      refine r_icmp_geN (pc := 7) 64 (tX11_determinantWith.at 5 rfl) (by decide) (by omega) (by omega) (fun _ => ?_) (fun c => by omega)
      refine r_aload_n (pc := 64) (i := 0) (tX11_determinantWith.at 37 rfl) rfl rfl ?_
      refine r_aload_n (pc := 65) (i := 0) (tX11_determinantWith.at 38 rfl) rfl rfl ?_
      refine r_get (pc := 66) (tX11_determinantWith.at 39 rfl) gf_X11_235 (mH_0) rfl ?_
      refine r_eq rfl (st2 := [.int (nI r), .ref m]) (by show [Value.int (nI S.unk), _] = _; rw [ms1]) ?_
      refine r_callV (M' := mX11_determinant) (pc := 69) (tX11_determinantWith.at 40 rfl) ml_X11_238 rfl mw_X11_determinant ⟨by decide, by decide⟩ (mH_0) rfl rfl ((c_mDet (S := S.s_sqr C) (n := r) (A := A) (by omega) hC ok)) rfl rfl (Nat.le_of_ble_eq_true rfl) (Nat.le_of_ble_eq_true rfl) (Nat.le_of_ble_eq_true rfl) ?_
      rintro _ _ _ ⟨rfl, rfl, q, rfl⟩
      refine r_lret (pc := 72) (tX11_determinantWith.at 41 rfl) rfl (Nat.le_of_ble_eq_true rfl) (Nat.le_of_ble_eq_true rfl) ?_
      subst hPo
      exact ⟨rfl, rfl, q, rfl⟩
    | succ k ih =>
      intro r C o3 hr hC
      refine r_iload_n (pc := 2) (i := 2) (tX11_determinantWith.at 2 rfl) rfl rfl ?_
      refine r_aload_n (pc := 3) (i := 0) (tX11_determinantWith.at 3 rfl) rfl rfl ?_
      refine r_get (pc := 4) (tX11_determinantWith.at 4 rfl) gf_X11_235 (mH_0) rfl ?_
      refine r_eq rfl (st2 := [.int (nI N), .int (nI r)]) (by show [Value.int (nI S.unk), _] = _; rw [ms1]) ?_
      refine r_icmp_geN (pc := 7) 64 (tX11_determinantWith.at 5 rfl) (by decide) (by omega) (by omega) (fun c => by omega) (fun _ => ?_)
      refine r_iconst (pc := 10) (w := nI 0) (tX11_determinantWith.at 6 rfl) (by decide) ?_
      refine r_istore_n (pc := 11) (i := 3) (tX11_determinantWith.at 7 rfl) rfl (by decide) ?_
      have k2 : ∀ k c C, c + k = N → (∀ i j, i < N → j < N → (i < r ∨ (i = r ∧ j < c)) → C (6 * i + j) = A i j) → J v mX11_determinantWith (rmOf 2 0 0) (KM v Po noX 0 0) top 0 0 (mH v h m (S.s_sqr C)) top 12 [some (.ref m), some (.int (zI z)), some (.int (nI r)), some (.int (nI c))] [] := by
        intro k
        induction k with
        | zero =>
          intro c C hc hC
          have hc : c = N := by omega
          refine r_iload_n (pc := 12) (i := 3) (tX11_determinantWith.at 8 rfl) rfl rfl ?_
          refine r_aload_n (pc := 13) (i := 0) (tX11_determinantWith.at 9 rfl) rfl rfl ?_
          refine r_get (pc := 14) (tX11_determinantWith.at 10 rfl) gf_X11_235 (mH_0) rfl ?_
          refine r_eq rfl (st2 := [.int (nI N), .int (nI c)]) (by show [Value.int (nI S.unk), _] = _; rw [ms1]) ?_
          refine r_icmp_geN (pc := 17) 58 (tX11_determinantWith.at 11 rfl) (by decide) (by omega) (by omega) (fun _ => ?_) (fun c => by omega)
          first | refine r_iincN (pc := 58) (tX11_determinantWith.at 35 rfl) rfl (by decide) ?_ | refine r_iinc (pc := 58) (tX11_determinantWith.at 35 rfl) rfl rfl (by decide) ?_
          refine r_goto (pc := 61) 2 (tX11_determinantWith.at 36 rfl) (by decide) ?_
          exact ih (r + 1) C _ (by omega) (fun i j hi hj => hC i j (by omega) hj (by omega))
        | succ k ih2 =>
          intro c C hc hC
          have e := ent r c (by omega) (by omega)
          refine r_iload_n (pc := 12) (i := 3) (tX11_determinantWith.at 8 rfl) rfl rfl ?_
          refine r_aload_n (pc := 13) (i := 0) (tX11_determinantWith.at 9 rfl) rfl rfl ?_
          refine r_get (pc := 14) (tX11_determinantWith.at 10 rfl) gf_X11_235 (mH_0) rfl ?_
          refine r_eq rfl (st2 := [.int (nI N), .int (nI c)]) (by show [Value.int (nI S.unk), _] = _; rw [ms1]) ?_
          refine r_icmp_geN (pc := 17) 58 (tX11_determinantWith.at 11 rfl) (by decide) (by omega) (by omega) (fun c => by omega) (fun _ => ?_)
          have tail : ∀ j : Nat, j = (if (c : Int) = z then 6 else c) → j ≤ 6 → J v mX11_determinantWith (rmOf 2 0 0) (KM v Po noX 0 0) top 0 0 (mH v h m (S.s_sqr C)) top 49 [some (.ref m), some (.int (zI z)), some (.int (nI r)), some (.int (nI c))] [.int (nI j), .int (nI (7 * r)), .ref (m + 8), .int (nI (6 * r + c)), .ref (m + 9)] := by
            intro j hj hj6
            first | refine r_iaddN (pc := 49) (tX11_determinantWith.at 30 rfl) ?_ | refine r_iaddZ (pc := 49) (tX11_determinantWith.at 30 rfl) ?_ | refine r_iadd (pc := 49) (tX11_determinantWith.at 30 rfl) ?_
            refine r_lald (pc := 50) (tX11_determinantWith.at 31 rfl) (mH_mtx) (7 * r + j) (rfl) (by omega) (Nat.le_of_ble_eq_true rfl) ?_
            rw [show lF (S.s_sqr C).mtx (7 * r + j) = lI (A r c) from congrArg lI (by rw [hj]; exact e)]
            refine r_last (pc := 51) (tX11_determinantWith.at 32 rfl) (mH_sqr) (6 * r + c) (rfl) (by omega) (Nat.le_of_ble_eq_true rfl) ?_
            rw [show lF (S.s_sqr C).sqr = lF C from rfl, upd_lF, mH_ssqr]
            refine r_eq (h2 := mH v h m (S.s_sqr (upZ C (6 * r + c) (A r c)))) rfl rfl ?_
            first | refine r_iincN (pc := 52) (tX11_determinantWith.at 33 rfl) rfl (by decide) ?_ | refine r_iinc (pc := 52) (tX11_determinantWith.at 33 rfl) rfl rfl (by decide) ?_
            refine r_goto (pc := 55) 12 (tX11_determinantWith.at 34 rfl) (by decide) ?_
            refine ih2 (c + 1) _ (by omega) (fun i j hi hj hij => ?_)
            by_cases h3 : i = r ∧ j = c
            · rw [h3.1, h3.2, upZ_eq]
            · rw [upZ_ne _ _ (by rw [ne_eq, m6 (by omega) (by omega)]; omega)]
              exact hC i j hi hj (by omega)
          refine r_aload_n (pc := 20) (i := 0) (tX11_determinantWith.at 12 rfl) rfl rfl ?_
          refine r_get (pc := 21) (tX11_determinantWith.at 13 rfl) gf_X11_39 (mH_0) rfl ?_
          refine r_bipush (pc := 24) (w := nI 6) (tX11_determinantWith.at 14 rfl) (by decide) ?_
          refine r_iload_n (pc := 26) (i := 2) (tX11_determinantWith.at 15 rfl) rfl rfl ?_
          first | refine r_imulN (pc := 27) (tX11_determinantWith.at 16 rfl) ?_ | refine r_imulZ (pc := 27) (tX11_determinantWith.at 16 rfl) ?_ | refine r_imul (pc := 27) (tX11_determinantWith.at 16 rfl) ?_
          refine r_iload_n (pc := 28) (i := 3) (tX11_determinantWith.at 17 rfl) rfl rfl ?_
          first | refine r_iaddN (pc := 29) (tX11_determinantWith.at 18 rfl) ?_ | refine r_iaddZ (pc := 29) (tX11_determinantWith.at 18 rfl) ?_ | refine r_iadd (pc := 29) (tX11_determinantWith.at 18 rfl) ?_
          refine r_aload_n (pc := 30) (i := 0) (tX11_determinantWith.at 19 rfl) rfl rfl ?_
          refine r_get (pc := 31) (tX11_determinantWith.at 20 rfl) gf_X11_36 (mH_0) rfl ?_
          refine r_bipush (pc := 34) (w := nI 7) (tX11_determinantWith.at 21 rfl) (by decide) ?_
          refine r_iload_n (pc := 36) (i := 2) (tX11_determinantWith.at 22 rfl) rfl rfl ?_
          first | refine r_imulN (pc := 37) (tX11_determinantWith.at 23 rfl) ?_ | refine r_imulZ (pc := 37) (tX11_determinantWith.at 23 rfl) ?_ | refine r_imul (pc := 37) (tX11_determinantWith.at 23 rfl) ?_
          refine r_iload_n (pc := 38) (i := 3) (tX11_determinantWith.at 24 rfl) rfl rfl ?_
          refine r_iload_n (pc := 39) (i := 1) (tX11_determinantWith.at 25 rfl) rfl rfl ?_
          refine r_eq rfl (st2 := [.int (zI z), .int (zI (c : Nat)), .int (nI (7 * r)), .ref (m + 8), .int (nI (6 * r + c)), .ref (m + 9)]) (by rw [zI_nat]) ?_
          by_cases c1 : (c : Int) = z
          · refine r_icmp_neZ (pc := 40) 48 (tX11_determinantWith.at 26 rfl) (by decide) ⟨by omega, by omega⟩ ⟨by omega, by omega⟩ (fun c => by omega) (fun _ => ?_)
            refine r_bipush (pc := 43) (w := nI 6) (tX11_determinantWith.at 27 rfl) (by decide) ?_
            refine r_goto (pc := 45) 49 (tX11_determinantWith.at 28 rfl) (by decide) ?_
            exact tail 6 (by rw [if_pos c1]) (by omega)
          · refine r_icmp_neZ (pc := 40) 48 (tX11_determinantWith.at 26 rfl) (by decide) ⟨by omega, by omega⟩ ⟨by omega, by omega⟩ (fun _ => ?_) (fun c => by omega)
            refine r_iload_n (pc := 48) (i := 3) (tX11_determinantWith.at 29 rfl) rfl rfl ?_
            exact tail c (by rw [if_neg c1]) (by omega)
      exact k2 N 0 C (by omega) (fun i j hi hj hij => hC i j (by omega) hj)
  refine r_iconst (pc := 0) (w := nI 0) (tX11_determinantWith.at 0 rfl) (by decide) ?_
  refine r_istore_n (pc := 1) (i := 2) (tX11_determinantWith.at 1 rfl) rfl (by decide) ?_
  exact k1 N 0 S.sqr _ (by omega) (fun i j hi hj => by omega)
theorem c_mFur {W : Nat → Nat} {n x : Nat} {p : Nat → Bool} {g : Nat → Int} {w : Int} (ms : mtS S W n p g) (hn : n ≤ 6) (hx : x < n) : Cal v mX11_further 1 0 0 [.ref m, .int (nI x), .long (lI w)] (mH v h m S) top (fun r h' top' => r = none ∧ top = top' ∧ ∃ M, h' = mH v h m (S.s_mtx M) ∧ mtS (S.s_mtx M) W n p (upZ g x w)) noX := by
  obtain ⟨ms1, ms2, ms3, ms4⟩ := ms
  have hl := asc_le p x
  have hp := ms2 x hx
  refine Cal.ofJ (by decide +kernel) rfl (Nat.le_of_ble_eq_true rfl) fun hz0 => ?_
  refine r_ls [some (.ref m), some (.int (nI x)), some (.long (lI w)), none] rfl ?_
  generalize hPo : (fun (r : Option Value) (h' : Hp) (top' : Nat) => r = none ∧ top = top' ∧ ∃ M, h' = mH v h m (S.s_mtx M) ∧ mtS (S.s_mtx M) W n p (upZ g x w)) = Po
  refine r_aload_n (pc := 0) (i := 0) (tX11_further.at 0 rfl) rfl rfl ?_
  refine r_get (pc := 1) (tX11_further.at 1 rfl) gf_X11_42 (mH_0) rfl ?_
  refine r_iload_n (pc := 4) (i := 1) (tX11_further.at 2 rfl) rfl rfl ?_
  refine r_iald (pc := 5) (tX11_further.at 3 rfl) (mH_pls) (x) (rfl) (by omega) (Nat.le_of_ble_eq_true rfl) ?_
  refine r_eq rfl (st2 := [.int (zI (S.pls x))]) rfl ?_
  rw [hp]
  refine r_iconst (pc := 6) (w := zI (-1)) (tX11_further.at 4 rfl) (by decide) ?_
  by_cases c : p x = true
  · rw [if_pos c] at hp ⊢
    refine r_icmp_eqZ (pc := 7) 28 (tX11_further.at 5 rfl) (by decide) ⟨by omega, by omega⟩ ⟨by omega, by omega⟩ (fun c => by omega) (fun _ => ?_)
    refine r_aload_n (pc := 10) (i := 0) (tX11_further.at 6 rfl) rfl rfl ?_
    refine r_get (pc := 11) (tX11_further.at 7 rfl) gf_X11_36 (mH_0) rfl ?_
    refine r_bipush (pc := 14) (w := nI 7) (tX11_further.at 8 rfl) (by decide) ?_
    refine r_aload_n (pc := 16) (i := 0) (tX11_further.at 9 rfl) rfl rfl ?_
    refine r_get (pc := 17) (tX11_further.at 10 rfl) gf_X11_42 (mH_0) rfl ?_
    refine r_iload_n (pc := 20) (i := 1) (tX11_further.at 11 rfl) rfl rfl ?_
    refine r_iald (pc := 21) (tX11_further.at 12 rfl) (mH_pls) (x) (rfl) (by omega) (Nat.le_of_ble_eq_true rfl) ?_
    refine r_eq rfl (st2 := [.int (nI (ascL p x).length), .int (nI 7), .ref (m + 8)]) (by show [Value.int (zI (S.pls x)), _, _] = _; rw [hp, zI_nat]) ?_
    first | refine r_imulN (pc := 22) (tX11_further.at 13 rfl) ?_ | refine r_imulZ (pc := 22) (tX11_further.at 13 rfl) ?_ | refine r_imul (pc := 22) (tX11_further.at 13 rfl) ?_
    refine r_bipush (pc := 23) (w := nI 6) (tX11_further.at 14 rfl) (by decide) ?_
    first | refine r_iaddN (pc := 25) (tX11_further.at 15 rfl) ?_ | refine r_iaddZ (pc := 25) (tX11_further.at 15 rfl) ?_ | refine r_iadd (pc := 25) (tX11_further.at 15 rfl) ?_
    refine r_lload_n (pc := 26) (i := 2) (tX11_further.at 16 rfl) rfl rfl ?_
    refine r_last (pc := 27) (tX11_further.at 17 rfl) (mH_mtx) (7 * (ascL p x).length + 6) (rfl) (by omega) (Nat.le_of_ble_eq_true rfl) ?_
    rw [upd_lF, mH_smtx]
    refine r_vret (pc := 28) (tX11_further.at 18 rfl) rfl (Nat.le_of_ble_eq_true rfl) (Nat.le_of_ble_eq_true rfl) ?_
    subst hPo
    refine ⟨rfl, rfl, _, rfl, ms1, ms2, fun a b ha hb pa pb => ?_, fun a ha pa => ?_⟩
    · have l1 := asc_le p b
      show upZ S.mtx _ _ _ = _
      rw [upZ_ne _ _ (by rw [ne_eq, m7 (by omega) (by omega)]; omega)]
      exact ms3 a b ha hb pa pb
    · show upZ S.mtx _ _ _ = _
      by_cases q : a = x
      · rw [q, upZ_eq, upZ_eq]
      · rw [upZ_ne _ _ (by rw [ne_eq, m7 (by omega) (by omega)]; intro z; exact q (asc_inj p pa c z.1)), upZ_ne _ _ q]
        exact ms4 a ha pa
  · rw [if_neg c] at hp ⊢
    refine r_icmp_eqZ (pc := 7) 28 (tX11_further.at 5 rfl) (by decide) ⟨by omega, by omega⟩ ⟨by omega, by omega⟩ (fun _ => ?_) (fun c => by omega)
    refine r_vret (pc := 28) (tX11_further.at 18 rfl) rfl (Nat.le_of_ble_eq_true rfl) (Nat.le_of_ble_eq_true rfl) ?_
    subst hPo
    refine ⟨rfl, rfl, S.mtx, rfl, ms1, ms2, ms3, fun a ha pa => ?_⟩
    rw [upZ_ne _ _ (fun q => c (by rw [← q]; exact pa))]
    exact ms4 a ha pa
theorem c_mSol {W : Nat → Nat} {n x : Nat} {p : Nat → Bool} {g : Nat → Int} {N D : Int} (ms : mtS S W n p g) (hn : n ≤ 6) (hx : x < n) (hp : p x = true)
    (ok1 : okDt (ascL p n).length (ascL p n).length 0 (rMt W n (ascL p n) g ((ascL p x).length : Nat)) 1) (e1 : dtS (ascL p n).length (ascL p n).length 0 (rMt W n (ascL p n) g ((ascL p x).length : Nat)) 1 1 = N) (b1 : -9223372036854775807 ≤ N ∧ N ≤ 9223372036854775807)
    (ok2 : okDt (ascL p n).length (ascL p n).length 0 (rMt W n (ascL p n) g (-1)) 1) (e2 : dtS (ascL p n).length (ascL p n).length 0 (rMt W n (ascL p n) g (-1)) 1 1 = D) (b2 : -9223372036854775807 ≤ D ∧ D ≤ 9223372036854775807) :
    Cal v mX11_solves 3 0 0 [.ref m, .int (nI x)] (mH v h m S) top (fun r h' top' => r = none ∧ top = top' ∧ ∃ q, h' = mH v h m ((S.s_sqr q).fra N D)) noX := by
  have hl := asc_le p x
  have hpl := ms.2.1 x hx
  rw [if_pos hp] at hpl
  refine Cal.ofJ (by decide +kernel) rfl (Nat.le_of_ble_eq_true rfl) fun hz0 => ?_
  refine r_ls [some (.ref m), some (.int (nI x))] rfl ?_
  generalize hPo : (fun (r : Option Value) (h' : Hp) (top' : Nat) => r = none ∧ top = top' ∧ ∃ q, h' = mH v h m ((S.s_sqr q).fra N D)) = Po
  refine r_aload_n (pc := 0) (i := 0) (tX11_solves.at 0 rfl) rfl rfl ?_
  refine r_aload_n (pc := 1) (i := 0) (tX11_solves.at 1 rfl) rfl rfl ?_
  refine r_aload_n (pc := 2) (i := 0) (tX11_solves.at 2 rfl) rfl rfl ?_
  refine r_get (pc := 3) (tX11_solves.at 3 rfl) gf_X11_42 (mH_0) rfl ?_
  refine r_iload_n (pc := 6) (i := 1) (tX11_solves.at 4 rfl) rfl rfl ?_
  refine r_iald (pc := 7) (tX11_solves.at 5 rfl) (mH_pls) (x) (rfl) (by omega) (Nat.le_of_ble_eq_true rfl) ?_
  refine r_eq rfl (st2 := [.int (zI ((ascL p x).length : Nat)), .ref m, .ref m]) (by show [Value.int (zI (S.pls x)), _, _] = _; rw [hpl]) ?_
  refine r_callV (M' := mX11_determinantWith) (pc := 8) (tX11_solves.at 6 rfl) ml_X11_242 rfl mw_X11_determinantWith ⟨by decide, by decide⟩ (mH_0) rfl rfl ((c_mDetW ms hn ⟨by omega, by omega⟩ ok1)) rfl rfl (Nat.le_of_ble_eq_true rfl) (Nat.le_of_ble_eq_true rfl) (Nat.le_of_ble_eq_true rfl) ?_
  rintro _ _ _ ⟨rfl, rfl, q1, rfl⟩
  rw [e1]
  refine r_aload_n (pc := 11) (i := 0) (tX11_solves.at 7 rfl) rfl rfl ?_
  refine r_iconst (pc := 12) (w := zI (-1)) (tX11_solves.at 8 rfl) (by decide) ?_
  refine r_callV (M' := mX11_determinantWith) (pc := 13) (tX11_solves.at 9 rfl) ml_X11_242 rfl mw_X11_determinantWith ⟨by decide, by decide⟩ (mH_0) rfl rfl ((c_mDetW (S := S.s_sqr q1) (z := -1) ms hn ⟨by omega, by omega⟩ ok2)) rfl rfl (Nat.le_of_ble_eq_true rfl) (Nat.le_of_ble_eq_true rfl) (Nat.le_of_ble_eq_true rfl) ?_
  rintro _ _ _ ⟨rfl, rfl, q2, rfl⟩
  rw [e2]
  refine r_callV (M' := mX11_fraction) (pc := 16) (tX11_solves.at 10 rfl) ml_X11_245 rfl mw_X11_fraction ⟨by decide, by decide⟩ (mH_0) rfl rfl (c_mFrac (S := S.s_sqr q2) b1 b2) rfl rfl (Nat.le_of_ble_eq_true rfl) (Nat.le_of_ble_eq_true rfl) (Nat.le_of_ble_eq_true rfl) ?_
  rintro _ _ _ ⟨rfl, rfl, rfl⟩
  refine r_vret (pc := 19) (tX11_solves.at 11 rfl) rfl (Nat.le_of_ble_eq_true rfl) (Nat.le_of_ble_eq_true rfl) ?_
  subst hPo
  exact ⟨rfl, rfl, q2, rfl⟩
end

