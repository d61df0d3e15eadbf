/-! ===== the reference: determinants ===== -/
def swA (A : Nat → Nat → Int) (k r : Nat) : Nat → Nat → Int := fun i => if i = k then A r else if i = r then A k else A i
def elA (A : Nat → Nat → Int) (k : Nat) (p : Int) : Nat → Nat → Int := fun i j => if k < i ∧ k < j then (A i j * A k k - A i k * A k j).tdiv p else A i j
/-- the row of the pivot -/
def pvR (A : Nat → Nat → Int) (n k : Nat) : Nat := k + fstN (fun t => decide (A (k + t) k ≠ 0)) (n - k)
theorem pvR_is {A : Nat → Nat → Int} {n k r : Nat} (h1 : k ≤ r) (h2 : r ≤ n) (h3 : ∀ t, k ≤ t → t < r → A t k = 0) (h4 : r = n ∨ A r k ≠ 0) : pvR A n k = r := by
  unfold pvR
  rw [fstN_is (k := r - k) (by omega) (fun j hj => decide_eq_false (fun z => z (h3 _ (by omega) (by omega)))) ?_]
  · omega
  · rcases h4 with h4 | h4
    · exact Or.inl (by omega)
    · right
      rw [show k + (r - k) = r by omega]
      exact decide_eq_true h4
def dtS (n : Nat) : Nat → Nat → (Nat → Nat → Int) → Int → Int → Int
  | 0, _, _, s, p => s * p
  | f + 1, k, A, s, p => if pvR A n k < n then dtS n f (k + 1) (elA (swA A k (pvR A n k)) k p) (if pvR A n k = k then s else -s) (swA A k (pvR A n k) k k) else 0
/-- all that is reckoned lies among the longs -/
def okDt (n : Nat) : Nat → Nat → (Nat → Nat → Int) → Int → Prop
  | 0, _, _, _ => True
  | f + 1, k, A, p => (∀ r, k ≤ r → r < n → inL (A r k)) ∧ (pvR A n k < n → (∀ i j, k < i → i < n → k < j → j < n → inL (swA A k (pvR A n k) i j * swA A k (pvR A n k) k k - swA A k (pvR A n k) i k * swA A k (pvR A n k) k j)) ∧ okDt n f (k + 1) (elA (swA A k (pvR A n k)) k p) (swA A k (pvR A n k) k k))
theorem m6 {i j i2 j2 : Nat} (h1 : j < 6) (h2 : j2 < 6) : 6 * i + j = 6 * i2 + j2 ↔ i = i2 ∧ j = j2 := by omega
section
variable {v : Ev} {h : Hp} {top m : Nat} {S : MS} {G : GT} {cn : Nat} {cc : Nat → Int}
theorem c_mDet {n : Nat} {A : Nat → Nat → Int} (hn : n ≤ 6) (hA : ∀ i j, i < n → j < n → S.sqr (6 * i + j) = A i j) (ok : okDt n n 0 A 1) : Cal v mX11_determinant 1 0 0 [.ref m, .int (nI n)] (mH v h m S) top (fun r h' top' => r = some (.long (lI (dtS n n 0 A 1 1))) ∧ top = top' ∧ ∃ q, h' = mH v h m (S.s_sqr q)) noX := by
  refine Cal.ofJ (by decide +kernel) rfl (Nat.le_of_ble_eq_true rfl) fun hz0 => ?_
  refine r_ls [some (.ref m), some (.int (nI n)), none, none, none, none, none, none, none, none, none] rfl ?_
  generalize hD : dtS n n 0 A 1 1 = D
  generalize hPo : (fun (r : Option Value) (h' : Hp) (top' : Nat) => r = some (.long (lI D)) ∧ top = top' ∧ ∃ q, h' = mH v h m (S.s_sqr q)) = Po
  have key3 : ∀ k s p (A : Nat → Nat → Int) row, k < n → inL p → p ≠ 0 → (∀ i j, k < i → i < n → k < j → j < n → inL (A i j * A k k - A i k * A k j)) → ∀ r, k < r → r < n → (∀ C o9, (∀ i j, i < n → j < n → C (6 * i + j) = if i < r + 1 then elA A k p i j else A i j) → J v mX11_determinant (rmOf 1 0 0) (KM v Po noX 0 0) top 0 0 (mH v h m (S.s_sqr C)) top 154 [some (.ref m), some (.int (nI n)), some (.long (lI s)), none, some (.long (lI p)), none, some (.int (nI k)), some (.int (nI row)), some (.int (nI (r + 1))), o9, none] []) →
      ∀ q c C, c + q = n → k < c → (∀ i j, i < n → j < n → C (6 * i + j) = if i < r ∨ (i = r ∧ j < c) then elA A k p i j else A i j) → J v mX11_determinant (rmOf 1 0 0) (KM v Po noX 0 0) top 0 0 (mH v h m (S.s_sqr C)) top 166 [some (.ref m), some (.int (nI n)), some (.long (lI s)), none, some (.long (lI p)), none, some (.int (nI k)), some (.int (nI row)), some (.int (nI r)), some (.int (nI c)), none] [] := by
    intro k s p A row hk hp hp0 okn r hkr hrn nx q
    induction q with
    | zero =>
      intro c C hc hkc hC
      have hc : c = n := by omega
      subst hc
      refine r_iload (pc := 166) (i := 9) (tX11_determinant.at 95 rfl) rfl ?_
      refine r_iload_n (pc := 168) (i := 1) (tX11_determinant.at 96 rfl) rfl rfl ?_
      refine r_icmp_geN (pc := 169) 249 (tX11_determinant.at 97 rfl) (by decide) (by omega) (by omega) (fun _ => ?_) (fun c => by omega)
      first | refine r_iincN (pc := 249) (tX11_determinant.at 145 rfl) rfl (by decide) ?_ | refine r_iinc (pc := 249) (tX11_determinant.at 145 rfl) rfl rfl (by decide) ?_
      refine r_goto (pc := 252) 154 (tX11_determinant.at 146 rfl) (by decide) ?_
      refine nx C _ (fun i j hi hj => ?_)
      rw [hC i j hi hj]
      by_cases h3 : i < r + 1
      · rw [if_pos h3, if_pos (by omega)]
      · rw [if_neg h3, if_neg (by omega)]
    | succ q ih =>
      intro c C hc hkc hC
      have e1 : C (6 * r + c) = A r c := by rw [hC r c hrn (by omega), if_neg (by omega)]
      have e2 : C (6 * k + k) = A k k := by
        rw [hC k k hk hk]
        split
        · rw [elA, if_neg (by omega)]
        · rfl
      have e3 : C (6 * r + k) = A r k := by
        rw [hC r k hrn hk]
        split
        · rw [elA, if_neg (by omega)]
        · rfl
      have e4 : C (6 * k + c) = A k c := by
        rw [hC k c hk (by omega)]
        split
        · rw [elA, if_neg (by omega)]
        · rfl
      refine r_iload (pc := 166) (i := 9) (tX11_determinant.at 95 rfl) rfl ?_
      refine r_iload_n (pc := 168) (i := 1) (tX11_determinant.at 96 rfl) rfl rfl ?_
      refine r_icmp_geN (pc := 169) 249 (tX11_determinant.at 97 rfl) (by decide) (by omega) (by omega) (fun c => by omega) (fun _ => ?_)
      refine r_aload_n (pc := 172) (i := 0) (tX11_determinant.at 98 rfl) rfl rfl ?_
      refine r_get (pc := 173) (tX11_determinant.at 99 rfl) gf_X11_39 (mH_0) rfl ?_
      refine r_bipush (pc := 176) (w := nI 6) (tX11_determinant.at 100 rfl) (by decide) ?_
      refine r_iload (pc := 178) (i := 8) (tX11_determinant.at 101 rfl) rfl ?_
      first | refine r_imulN (pc := 180) (tX11_determinant.at 102 rfl) ?_ | refine r_imulZ (pc := 180) (tX11_determinant.at 102 rfl) ?_ | refine r_imul (pc := 180) (tX11_determinant.at 102 rfl) ?_
      refine r_iload (pc := 181) (i := 9) (tX11_determinant.at 103 rfl) rfl ?_
      first | refine r_iaddN (pc := 183) (tX11_determinant.at 104 rfl) ?_ | refine r_iaddZ (pc := 183) (tX11_determinant.at 104 rfl) ?_ | refine r_iadd (pc := 183) (tX11_determinant.at 104 rfl) ?_
      refine r_aload_n (pc := 184) (i := 0) (tX11_determinant.at 105 rfl) rfl rfl ?_
      refine r_get (pc := 185) (tX11_determinant.at 106 rfl) gf_X11_39 (mH_0) rfl ?_
      refine r_bipush (pc := 188) (w := nI 6) (tX11_determinant.at 107 rfl) (by decide) ?_
      refine r_iload (pc := 190) (i := 8) (tX11_determinant.at 108 rfl) rfl ?_
      first | refine r_imulN (pc := 192) (tX11_determinant.at 109 rfl) ?_ | refine r_imulZ (pc := 192) (tX11_determinant.at 109 rfl) ?_ | refine r_imul (pc := 192) (tX11_determinant.at 109 rfl) ?_
      refine r_iload (pc := 193) (i := 9) (tX11_determinant.at 110 rfl) rfl ?_
      first | refine r_iaddN (pc := 195) (tX11_determinant.at 111 rfl) ?_ | refine r_iaddZ (pc := 195) (tX11_determinant.at 111 rfl) ?_ | refine r_iadd (pc := 195) (tX11_determinant.at 111 rfl) ?_
      refine r_lald (pc := 196) (tX11_determinant.at 112 rfl) (mH_sqr) (6 * r + c) (rfl) (by omega) (Nat.le_of_ble_eq_true rfl) ?_
      rw [show lF (S.s_sqr C).sqr (6 * r + c) = lI (A r c) from congrArg lI e1]
      refine r_aload_n (pc := 197) (i := 0) (tX11_determinant.at 113 rfl) rfl rfl ?_
      refine r_get (pc := 198) (tX11_determinant.at 114 rfl) gf_X11_39 (mH_0) rfl ?_
      refine r_bipush (pc := 201) (w := nI 6) (tX11_determinant.at 115 rfl) (by decide) ?_
      refine r_iload (pc := 203) (i := 6) (tX11_determinant.at 116 rfl) rfl ?_
      first | refine r_imulN (pc := 205) (tX11_determinant.at 117 rfl) ?_ | refine r_imulZ (pc := 205) (tX11_determinant.at 117 rfl) ?_ | refine r_imul (pc := 205) (tX11_determinant.at 117 rfl) ?_
      refine r_iload (pc := 206) (i := 6) (tX11_determinant.at 118 rfl) rfl ?_
      first | refine r_iaddN (pc := 208) (tX11_determinant.at 119 rfl) ?_ | refine r_iaddZ (pc := 208) (tX11_determinant.at 119 rfl) ?_ | refine r_iadd (pc := 208) (tX11_determinant.at 119 rfl) ?_
      refine r_lald (pc := 209) (tX11_determinant.at 120 rfl) (mH_sqr) (6 * k + k) (rfl) (by omega) (Nat.le_of_ble_eq_true rfl) ?_
      rw [show lF (S.s_sqr C).sqr (6 * k + k) = lI (A k k) from congrArg lI e2]
      first | refine r_lmulL (pc := 210) (tX11_determinant.at 121 rfl) ?_ | refine r_lmul (pc := 210) (tX11_determinant.at 121 rfl) ?_
      refine r_aload_n (pc := 211) (i := 0) (tX11_determinant.at 122 rfl) rfl rfl ?_
      refine r_get (pc := 212) (tX11_determinant.at 123 rfl) gf_X11_39 (mH_0) rfl ?_
      refine r_bipush (pc := 215) (w := nI 6) (tX11_determinant.at 124 rfl) (by decide) ?_
      refine r_iload (pc := 217) (i := 8) (tX11_determinant.at 125 rfl) rfl ?_
      first | refine r_imulN (pc := 219) (tX11_determinant.at 126 rfl) ?_ | refine r_imulZ (pc := 219) (tX11_determinant.at 126 rfl) ?_ | refine r_imul (pc := 219) (tX11_determinant.at 126 rfl) ?_
      refine r_iload (pc := 220) (i := 6) (tX11_determinant.at 127 rfl) rfl ?_
      first | refine r_iaddN (pc := 222) (tX11_determinant.at 128 rfl) ?_ | refine r_iaddZ (pc := 222) (tX11_determinant.at 128 rfl) ?_ | refine r_iadd (pc := 222) (tX11_determinant.at 128 rfl) ?_
      refine r_lald (pc := 223) (tX11_determinant.at 129 rfl) (mH_sqr) (6 * r + k) (rfl) (by omega) (Nat.le_of_ble_eq_true rfl) ?_
      rw [show lF (S.s_sqr C).sqr (6 * r + k) = lI (A r k) from congrArg lI e3]
      refine r_aload_n (pc := 224) (i := 0) (tX11_determinant.at 130 rfl) rfl rfl ?_
      refine r_get (pc := 225) (tX11_determinant.at 131 rfl) gf_X11_39 (mH_0) rfl ?_
      refine r_bipush (pc := 228) (w := nI 6) (tX11_determinant.at 132 rfl) (by decide) ?_
      refine r_iload (pc := 230) (i := 6) (tX11_determinant.at 133 rfl) rfl ?_
      first | refine r_imulN (pc := 232) (tX11_determinant.at 134 rfl) ?_ | refine r_imulZ (pc := 232) (tX11_determinant.at 134 rfl) ?_ | refine r_imul (pc := 232) (tX11_determinant.at 134 rfl) ?_
      refine r_iload (pc := 233) (i := 9) (tX11_determinant.at 135 rfl) rfl ?_
      first | refine r_iaddN (pc := 235) (tX11_determinant.at 136 rfl) ?_ | refine r_iaddZ (pc := 235) (tX11_determinant.at 136 rfl) ?_ | refine r_iadd (pc := 235) (tX11_determinant.at 136 rfl) ?_
      refine r_lald (pc := 236) (tX11_determinant.at 137 rfl) (mH_sqr) (6 * k + c) (rfl) (by omega) (Nat.le_of_ble_eq_true rfl) ?_
      rw [show lF (S.s_sqr C).sqr (6 * k + c) = lI (A k c) from congrArg lI e4]
      first | refine r_lmulL (pc := 237) (tX11_determinant.at 138 rfl) ?_ | refine r_lmul (pc := 237) (tX11_determinant.at 138 rfl) ?_
      first | refine r_lsubL (pc := 238) (tX11_determinant.at 139 rfl) ?_ | refine r_lsub (pc := 238) (tX11_determinant.at 139 rfl) ?_
      refine r_lload (pc := 239) (i := 4) (tX11_determinant.at 140 rfl) rfl ?_
      refine r_ldivL (pc := 241) (tX11_determinant.at 141 rfl) (okn r c hkr hrn hkc (by omega)) (hp) (hp0) ?_
      refine r_last (pc := 242) (tX11_determinant.at 142 rfl) (mH_sqr) (6 * r + c) (rfl) (by omega) (Nat.le_of_ble_eq_true rfl) ?_
      rw [show lF (S.s_sqr C).sqr = lF C from rfl, upd_lF, mH_ssqr]
      refine r_eq (h2 := mH v h m (S.s_sqr (upZ C (6 * r + c) ((A r c * A k k - A r k * A k c).tdiv p)))) rfl rfl ?_
      first | refine r_iincN (pc := 243) (tX11_determinant.at 143 rfl) rfl (by decide) ?_ | refine r_iinc (pc := 243) (tX11_determinant.at 143 rfl) rfl rfl (by decide) ?_
      refine r_goto (pc := 246) 166 (tX11_determinant.at 144 rfl) (by decide) ?_
      refine ih (c + 1) _ (by omega) (by omega) (fun i j hi hj => ?_)
      by_cases h3 : i = r ∧ j = c
      · obtain ⟨rfl, rfl⟩ := h3
        rw [upZ_eq, if_pos (by omega), elA, if_pos ⟨hkr, hkc⟩]
      · rw [upZ_ne _ _ (by rw [ne_eq, m6 (by omega) (by omega)]; omega), hC i j hi hj]
        by_cases h4 : i < r ∨ (i = r ∧ j < c)
        · rw [if_pos h4, if_pos (by omega)]
        · rw [if_neg h4, if_neg (by omega)]
  have key2 : ∀ k s p (A : Nat → Nat → Int) row, k < n → inL p → p ≠ 0 → (∀ i j, k < i → i < n → k < j → j < n → inL (A i j * A k k - A i k * A k j)) → (∀ C o8 o9, (∀ i j, i < n → j < n → C (6 * i + j) = elA A k p i j) → J v mX11_determinant (rmOf 1 0 0) (KM v Po noX 0 0) top 0 0 (mH v h m (S.s_sqr C)) top 8 [some (.ref m), some (.int (nI n)), some (.long (lI s)), none, some (.long (lI (A k k))), none, some (.int (nI (k + 1))), some (.int (nI row)), o8, o9, none] []) →
      ∀ q r C o9, r + q = n → k < r → (∀ i j, i < n → j < n → C (6 * i + j) = if i < r then elA A k p i j else A i j) → J v mX11_determinant (rmOf 1 0 0) (KM v Po noX 0 0) top 0 0 (mH v h m (S.s_sqr C)) top 154 [some (.ref m), some (.int (nI n)), some (.long (lI s)), none, some (.long (lI p)), none, some (.int (nI k)), some (.int (nI row)), some (.int (nI r)), o9, none] [] := by
    intro k s p A row hk hp hp0 okn nx q
    induction q with
    | zero =>
      intro r C o9 hr hkr hC
      have hr : r = n := by omega
      subst hr
      have e2 : C (6 * k + k) = A k k := by rw [hC k k hk hk, if_pos hk, elA, if_neg (by omega)]
      refine r_iload (pc := 154) (i := 8) (tX11_determinant.at 88 rfl) rfl ?_
      refine r_iload_n (pc := 156) (i := 1) (tX11_determinant.at 89 rfl) rfl rfl ?_
      refine r_icmp_geN (pc := 157) 255 (tX11_determinant.at 90 rfl) (by decide) (by omega) (by omega) (fun _ => ?_) (fun c => by omega)
      refine r_aload_n (pc := 255) (i := 0) (tX11_determinant.at 147 rfl) rfl rfl ?_
      refine r_get (pc := 256) (tX11_determinant.at 148 rfl) gf_X11_39 (mH_0) rfl ?_
      refine r_bipush (pc := 259) (w := nI 6) (tX11_determinant.at 149 rfl) (by decide) ?_
      refine r_iload (pc := 261) (i := 6) (tX11_determinant.at 150 rfl) rfl ?_
      first | refine r_imulN (pc := 263) (tX11_determinant.at 151 rfl) ?_ | refine r_imulZ (pc := 263) (tX11_determinant.at 151 rfl) ?_ | refine r_imul (pc := 263) (tX11_determinant.at 151 rfl) ?_
      refine r_iload (pc := 264) (i := 6) (tX11_determinant.at 152 rfl) rfl ?_
      first | refine r_iaddN (pc := 266) (tX11_determinant.at 153 rfl) ?_ | refine r_iaddZ (pc := 266) (tX11_determinant.at 153 rfl) ?_ | refine r_iadd (pc := 266) (tX11_determinant.at 153 rfl) ?_
      refine r_lald (pc := 267) (tX11_determinant.at 154 rfl) (mH_sqr) (6 * k + k) (rfl) (by omega) (Nat.le_of_ble_eq_true rfl) ?_
      rw [show lF (S.s_sqr C).sqr (6 * k + k) = lI (A k k) from congrArg lI e2]
      refine r_lstore (pc := 268) (i := 4) (tX11_determinant.at 155 rfl) (by decide) ?_
      first | refine r_iincN (pc := 270) (tX11_determinant.at 156 rfl) rfl (by decide) ?_ | refine r_iinc (pc := 270) (tX11_determinant.at 156 rfl) rfl rfl (by decide) ?_
      refine r_goto (pc := 273) 8 (tX11_determinant.at 157 rfl) (by decide) ?_
      exact nx C _ _ (fun i j hi hj => by rw [hC i j hi hj, if_pos hi])
    | succ q ih =>
      intro r C o9 hr hkr hC
      refine r_iload (pc := 154) (i := 8) (tX11_determinant.at 88 rfl) rfl ?_
      refine r_iload_n (pc := 156) (i := 1) (tX11_determinant.at 89 rfl) rfl rfl ?_
      refine r_icmp_geN (pc := 157) 255 (tX11_determinant.at 90 rfl) (by decide) (by omega) (by omega) (fun c => by omega) (fun _ => ?_)
      refine r_iload (pc := 160) (i := 6) (tX11_determinant.at 91 rfl) rfl ?_
      refine r_iconst (pc := 162) (w := nI 1) (tX11_determinant.at 92 rfl) (by decide) ?_
      first | refine r_iaddN (pc := 163) (tX11_determinant.at 93 rfl) ?_ | refine r_iaddZ (pc := 163) (tX11_determinant.at 93 rfl) ?_ | refine r_iadd (pc := 163) (tX11_determinant.at 93 rfl) ?_
      refine r_istore (pc := 164) (i := 9) (tX11_determinant.at 94 rfl) (by decide) ?_
      refine key3 k s p A row hk hp hp0 okn r hkr (by omega) (fun C o9 hC => ih (r + 1) C o9 (by omega) (by omega) hC) (n - (k + 1)) (k + 1) C (by omega) (by omega) (fun i j hi hj => ?_)
      rw [hC i j hi hj]
      by_cases h3 : i < r
      · rw [if_pos h3, if_pos (Or.inl h3)]
      · rw [if_neg h3]
        split
        · rw [elA, if_neg (by omega)]
        · rfl
  have key1 : ∀ f k (A : Nat → Nat → Int) s p C o7 o8 o9, k + f = n → (∀ i j, i < n → j < n → C (6 * i + j) = A i j) → okDt n f k A p → inL p → p ≠ 0 → dtS n f k A s p = D → J v mX11_determinant (rmOf 1 0 0) (KM v Po noX 0 0) top 0 0 (mH v h m (S.s_sqr C)) top 8 [some (.ref m), some (.int (nI n)), some (.long (lI s)), none, some (.long (lI p)), none, some (.int (nI k)), o7, o8, o9, none] [] := by
    intro f
    induction f with
    | zero =>
      intro k A s p C o7 o8 o9 hk hC okf hp hp0 hd
      refine r_iload (pc := 8) (i := 6) (tX11_determinant.at 6 rfl) rfl ?_
      refine r_iload_n (pc := 10) (i := 1) (tX11_determinant.at 7 rfl) rfl rfl ?_
      refine r_icmp_geN (pc := 11) 276 (tX11_determinant.at 8 rfl) (by decide) (by omega) (by omega) (fun _ => ?_) (fun c => by omega)
      refine r_lload_n (pc := 276) (i := 2) (tX11_determinant.at 158 rfl) rfl rfl ?_
      refine r_lload (pc := 277) (i := 4) (tX11_determinant.at 159 rfl) rfl ?_
      first | refine r_lmulL (pc := 279) (tX11_determinant.at 160 rfl) ?_ | refine r_lmul (pc := 279) (tX11_determinant.at 160 rfl) ?_
      refine r_lret (pc := 280) (tX11_determinant.at 161 rfl) rfl (Nat.le_of_ble_eq_true rfl) (Nat.le_of_ble_eq_true rfl) ?_
      subst hPo
      rw [← hd]
      exact ⟨rfl, rfl, C, rfl⟩
    | succ f ih =>
      intro k A s p C o7 o8 o9 hk hC okf hp hp0 hd
      obtain ⟨ok1, ok2⟩ := okf
      refine r_iload (pc := 8) (i := 6) (tX11_determinant.at 6 rfl) rfl ?_
      refine r_iload_n (pc := 10) (i := 1) (tX11_determinant.at 7 rfl) rfl rfl ?_
      refine r_icmp_geN (pc := 11) 276 (tX11_determinant.at 8 rfl) (by decide) (by omega) (by omega) (fun c => by omega) (fun _ => ?_)
      refine r_iload (pc := 14) (i := 6) (tX11_determinant.at 9 rfl) rfl ?_
      refine r_istore (pc := 16) (i := 7) (tX11_determinant.at 10 rfl) (by decide) ?_
      -- the pivot's row
      have part2 : ∀ row, k ≤ row → row < n → pvR A n k = row → A row k ≠ 0 → J v mX11_determinant (rmOf 1 0 0) (KM v Po noX 0 0) top 0 0 (mH v h m (S.s_sqr C)) top 48 [some (.ref m), some (.int (nI n)), some (.long (lI s)), none, some (.long (lI p)), none, some (.int (nI k)), some (.int (nI row)), o8, o9, none] [] := by
        intro row hkr hrn hpv ha
        rw [dtS, hpv, if_pos hrn] at hd
        rw [hpv] at ok2
        obtain ⟨ok3, ok4⟩ := ok2 hrn
        have hkk : swA A k row k k = A row k := by rw [swA, if_pos rfl]
        have ink : inL (swA A k row k k) := by rw [hkk]; exact ok1 row hkr hrn
        have tail : ∀ s' C o9, s' = (if row = k then s else -s) → (∀ i j, i < n → j < n → C (6 * i + j) = swA A k row i j) → ∀ o8, J v mX11_determinant (rmOf 1 0 0) (KM v Po noX 0 0) top 0 0 (mH v h m (S.s_sqr C)) top 147 [some (.ref m), some (.int (nI n)), some (.long (lI s)), none, some (.long (lI p)), none, some (.int (nI k)), some (.int (nI row)), o8, o9, none] [.long (lI s')] := by
          intro s' C o9 hs' hC o8
          refine r_lstore_n (pc := 147) (i := 2) (tX11_determinant.at 83 rfl) rfl (by decide) ?_
          refine r_iload (pc := 148) (i := 6) (tX11_determinant.at 84 rfl) rfl ?_
          refine r_iconst (pc := 150) (w := nI 1) (tX11_determinant.at 85 rfl) (by decide) ?_
          first | refine r_iaddN (pc := 151) (tX11_determinant.at 86 rfl) ?_ | refine r_iaddZ (pc := 151) (tX11_determinant.at 86 rfl) ?_ | refine r_iadd (pc := 151) (tX11_determinant.at 86 rfl) ?_
          refine r_istore (pc := 152) (i := 8) (tX11_determinant.at 87 rfl) (by decide) ?_
          refine key2 k s' p (swA A k row) row (by omega) hp hp0 ok3 (fun C o8 o9 hC => ?_) (n - (k + 1)) (k + 1) C _ (by omega) (by omega) (fun i j hi hj => ?_)
          · exact ih (k + 1) (elA (swA A k row) k p) s' _ C _ _ _ (by omega) hC ok4 ink (by rw [hkk]; exact ha) (by rw [hs']; exact hd)
          · rw [hC i j hi hj]
            split
            · rw [elA, if_neg (by omega)]
            · rfl
        have e134 : ∀ C o8 o9, (∀ i j, i < n → j < n → C (6 * i + j) = swA A k row i j) → J v mX11_determinant (rmOf 1 0 0) (KM v Po noX 0 0) top 0 0 (mH v h m (S.s_sqr C)) top 134 [some (.ref m), some (.int (nI n)), some (.long (lI s)), none, some (.long (lI p)), none, some (.int (nI k)), some (.int (nI row)), o8, o9, none] [] := by
          intro C o8 o9 hC
          refine r_iload (pc := 134) (i := 7) (tX11_determinant.at 76 rfl) rfl ?_
          refine r_iload (pc := 136) (i := 6) (tX11_determinant.at 77 rfl) rfl ?_
          refine r_icmp_neN (pc := 138) 145 (tX11_determinant.at 78 rfl) (by decide) (by omega) (by omega) (fun c => ?_) (fun c => ?_)
          · refine r_lload_n (pc := 145) (i := 2) (tX11_determinant.at 81 rfl) rfl rfl ?_
            first | refine r_lnegL (pc := 146) (tX11_determinant.at 82 rfl) ?_ | refine r_lneg (pc := 146) (tX11_determinant.at 82 rfl) ?_
            exact tail (-s) C _ (by rw [if_neg c]) hC _
          · refine r_lload_n (pc := 141) (i := 2) (tX11_determinant.at 79 rfl) rfl rfl ?_
            refine r_goto (pc := 142) 147 (tX11_determinant.at 80 rfl) (by decide) ?_
            exact tail s C _ (by rw [if_pos c]) hC _
        refine r_iload (pc := 48) (i := 7) (tX11_determinant.at 27 rfl) rfl ?_
        refine r_iload_n (pc := 50) (i := 1) (tX11_determinant.at 28 rfl) rfl rfl ?_
        refine r_icmp_neN (pc := 51) 56 (tX11_determinant.at 29 rfl) (by decide) (by omega) (by omega) (fun _ => ?_) (fun c => by omega)
        refine r_iconst (pc := 56) (w := nI 0) (tX11_determinant.at 32 rfl) (by decide) ?_
        refine r_istore (pc := 57) (i := 8) (tX11_determinant.at 33 rfl) (by decide) ?_
        have sw : ∀ q c C o9, c + q = n → (∀ i j, i < n → j < n → C (6 * i + j) = if j < c then swA A k row i j else A i j) → J v mX11_determinant (rmOf 1 0 0) (KM v Po noX 0 0) top 0 0 (mH v h m (S.s_sqr C)) top 59 [some (.ref m), some (.int (nI n)), some (.long (lI s)), none, some (.long (lI p)), none, some (.int (nI k)), some (.int (nI row)), some (.int (nI c)), o9, none] [] := by
          intro q
          induction q with
          | zero =>
            intro c C o9 hc hC
            have hc : c = n := by omega
            subst hc
            refine r_iload (pc := 59) (i := 8) (tX11_determinant.at 34 rfl) rfl ?_
            refine r_iload_n (pc := 61) (i := 1) (tX11_determinant.at 35 rfl) rfl rfl ?_
            refine r_icmp_geN (pc := 62) 134 (tX11_determinant.at 36 rfl) (by decide) (by omega) (by omega) (fun _ => ?_) (fun c => by omega)
            exact e134 C _ _ (fun i j hi hj => by rw [hC i j hi hj, if_pos hj])
          | succ q ih2 =>
            intro c C o9 hc hC
            refine r_iload (pc := 59) (i := 8) (tX11_determinant.at 34 rfl) rfl ?_
            refine r_iload_n (pc := 61) (i := 1) (tX11_determinant.at 35 rfl) rfl rfl ?_
            refine r_icmp_geN (pc := 62) 134 (tX11_determinant.at 36 rfl) (by decide) (by omega) (by omega) (fun c => by omega) (fun _ => ?_)
            refine r_iload (pc := 65) (i := 7) (tX11_determinant.at 37 rfl) rfl ?_
            refine r_iload (pc := 67) (i := 6) (tX11_determinant.at 38 rfl) rfl ?_
            refine r_icmp_eqN (pc := 69) 134 (tX11_determinant.at 39 rfl) (by decide) (by omega) (by omega) (fun hrk => ?_) (fun hrk => ?_)
            · refine e134 C _ _ (fun i j hi hj => ?_)
              rw [hC i j hi hj]
              split
              · rfl
              · unfold swA
                subst hrk
                split
                · next q => rw [q]
                · rfl
            · have e1 : C (6 * row + c) = A row c := by rw [hC row c hrn (by omega), if_neg (by omega)]
              have e2 : C (6 * k + c) = A k c := by rw [hC k c (by omega) (by omega), if_neg (by omega)]
              refine r_aload_n (pc := 72) (i := 0) (tX11_determinant.at 40 rfl) rfl rfl ?_
              refine r_get (pc := 73) (tX11_determinant.at 41 rfl) gf_X11_39 (mH_0) rfl ?_
              refine r_bipush (pc := 76) (w := nI 6) (tX11_determinant.at 42 rfl) (by decide) ?_
              refine r_iload (pc := 78) (i := 7) (tX11_determinant.at 43 rfl) rfl ?_
              first | refine r_imulN (pc := 80) (tX11_determinant.at 44 rfl) ?_ | refine r_imulZ (pc := 80) (tX11_determinant.at 44 rfl) ?_ | refine r_imul (pc := 80) (tX11_determinant.at 44 rfl) ?_
              refine r_iload (pc := 81) (i := 8) (tX11_determinant.at 45 rfl) rfl ?_
              first | refine r_iaddN (pc := 83) (tX11_determinant.at 46 rfl) ?_ | refine r_iaddZ (pc := 83) (tX11_determinant.at 46 rfl) ?_ | refine r_iadd (pc := 83) (tX11_determinant.at 46 rfl) ?_
              refine r_lald (pc := 84) (tX11_determinant.at 47 rfl) (mH_sqr) (6 * row + c) (rfl) (by omega) (Nat.le_of_ble_eq_true rfl) ?_
              rw [show lF (S.s_sqr C).sqr (6 * row + c) = lI (A row c) from congrArg lI e1]
              refine r_lstore (pc := 85) (i := 9) (tX11_determinant.at 48 rfl) (by decide) ?_
              refine r_aload_n (pc := 87) (i := 0) (tX11_determinant.at 49 rfl) rfl rfl ?_
              refine r_get (pc := 88) (tX11_determinant.at 50 rfl) gf_X11_39 (mH_0) rfl ?_
              refine r_bipush (pc := 91) (w := nI 6) (tX11_determinant.at 51 rfl) (by decide) ?_
              refine r_iload (pc := 93) (i := 7) (tX11_determinant.at 52 rfl) rfl ?_
              first | refine r_imulN (pc := 95) (tX11_determinant.at 53 rfl) ?_ | refine r_imulZ (pc := 95) (tX11_determinant.at 53 rfl) ?_ | refine r_imul (pc := 95) (tX11_determinant.at 53 rfl) ?_
              refine r_iload (pc := 96) (i := 8) (tX11_determinant.at 54 rfl) rfl ?_
              first | refine r_iaddN (pc := 98) (tX11_determinant.at 55 rfl) ?_ | refine r_iaddZ (pc := 98) (tX11_determinant.at 55 rfl) ?_ | refine r_iadd (pc := 98) (tX11_determinant.at 55 rfl) ?_
              refine r_aload_n (pc := 99) (i := 0) (tX11_determinant.at 56 rfl) rfl rfl ?_
              refine r_get (pc := 100) (tX11_determinant.at 57 rfl) gf_X11_39 (mH_0) rfl ?_
              refine r_bipush (pc := 103) (w := nI 6) (tX11_determinant.at 58 rfl) (by decide) ?_
              refine r_iload (pc := 105) (i := 6) (tX11_determinant.at 59 rfl) rfl ?_
              first | refine r_imulN (pc := 107) (tX11_determinant.at 60 rfl) ?_ | refine r_imulZ (pc := 107) (tX11_determinant.at 60 rfl) ?_ | refine r_imul (pc := 107) (tX11_determinant.at 60 rfl) ?_
              refine r_iload (pc := 108) (i := 8) (tX11_determinant.at 61 rfl) rfl ?_
              first | refine r_iaddN (pc := 110) (tX11_determinant.at 62 rfl) ?_ | refine r_iaddZ (pc := 110) (tX11_determinant.at 62 rfl) ?_ | refine r_iadd (pc := 110) (tX11_determinant.at 62 rfl) ?_
              refine r_lald (pc := 111) (tX11_determinant.at 63 rfl) (mH_sqr) (6 * k + c) (rfl) (by omega) (Nat.le_of_ble_eq_true rfl) ?_
              rw [show lF (S.s_sqr C).sqr (6 * k + c) = lI (A k c) from congrArg lI e2]
              refine r_last (pc := 112) (tX11_determinant.at 64 rfl) (mH_sqr) (6 * row + c) (rfl) (by omega) (Nat.le_of_ble_eq_true rfl) ?_
              rw [show lF (S.s_sqr C).sqr = lF C from rfl, upd_lF, mH_ssqr]
              refine r_eq (h2 := mH v h m (S.s_sqr (upZ C (6 * row + c) (A k c)))) rfl rfl ?_
              generalize hC1 : upZ C (6 * row + c) (A k c) = C1
              refine r_aload_n (pc := 113) (i := 0) (tX11_determinant.at 65 rfl) rfl rfl ?_
              refine r_get (pc := 114) (tX11_determinant.at 66 rfl) gf_X11_39 (mH_0) rfl ?_
              refine r_bipush (pc := 117) (w := nI 6) (tX11_determinant.at 67 rfl) (by decide) ?_
              refine r_iload (pc := 119) (i := 6) (tX11_determinant.at 68 rfl) rfl ?_
              first | refine r_imulN (pc := 121) (tX11_determinant.at 69 rfl) ?_ | refine r_imulZ (pc := 121) (tX11_determinant.at 69 rfl) ?_ | refine r_imul (pc := 121) (tX11_determinant.at 69 rfl) ?_
              refine r_iload (pc := 122) (i := 8) (tX11_determinant.at 70 rfl) rfl ?_
              first | refine r_iaddN (pc := 124) (tX11_determinant.at 71 rfl) ?_ | refine r_iaddZ (pc := 124) (tX11_determinant.at 71 rfl) ?_ | refine r_iadd (pc := 124) (tX11_determinant.at 71 rfl) ?_
              refine r_lload (pc := 125) (i := 9) (tX11_determinant.at 72 rfl) rfl ?_
              refine r_last (pc := 127) (tX11_determinant.at 73 rfl) (mH_sqr) (6 * k + c) (rfl) (by omega) (Nat.le_of_ble_eq_true rfl) ?_
              rw [show lF (S.s_sqr C1).sqr = lF C1 from rfl, upd_lF, mH_ssqr]
              refine r_eq (h2 := mH v h m (S.s_sqr (upZ C1 (6 * k + c) (A row c)))) rfl rfl ?_
              first | refine r_iincN (pc := 128) (tX11_determinant.at 74 rfl) rfl (by decide) ?_ | refine r_iinc (pc := 128) (tX11_determinant.at 74 rfl) rfl rfl (by decide) ?_
              refine r_goto (pc := 131) 59 (tX11_determinant.at 75 rfl) (by decide) ?_
              refine ih2 (c + 1) _ _ (by omega) (fun i j hi hj => ?_)
              rw [← hC1]
              by_cases h3 : j = c
              · subst h3
                rw [if_pos (by omega)]
                by_cases h4 : i = k
                · subst h4
                  rw [upZ_eq, swA, if_pos rfl]
                · rw [upZ_ne _ _ (by rw [ne_eq, m6 (by omega) (by omega)]; omega)]
                  by_cases h5 : i = row
                  · subst h5
                    rw [upZ_eq, swA, if_neg h4, if_pos rfl]
                  · rw [upZ_ne _ _ (by rw [ne_eq, m6 (by omega) (by omega)]; omega), hC i j hi hj, if_neg (by omega), swA, if_neg h4, if_neg h5]
              · rw [upZ_ne _ _ (by rw [ne_eq, m6 (by omega) (by omega)]; omega), upZ_ne _ _ (by rw [ne_eq, m6 (by omega) (by omega)]; omega), hC i j hi hj]
                by_cases h4 : j < c
                · rw [if_pos h4, if_pos (by omega)]
                · rw [if_neg h4, if_neg (by omega)]
        exact sw n 0 C _ (by omega) (fun i j hi hj => by rw [hC i j hi hj, if_neg (by omega)])
      have find : ∀ q row, row + q = n → k ≤ row → (∀ t, k ≤ t → t < row → A t k = 0) → J v mX11_determinant (rmOf 1 0 0) (KM v Po noX 0 0) top 0 0 (mH v h m (S.s_sqr C)) top 18 [some (.ref m), some (.int (nI n)), some (.long (lI s)), none, some (.long (lI p)), none, some (.int (nI k)), some (.int (nI row)), o8, o9, none] [] := by
        intro q
        induction q with
        | zero =>
          intro row hq hkr hz
          have hq : row = n := by omega
          have hpv : pvR A n k = n := pvR_is (by omega) (Nat.le_refl _) (fun t h1 h2 => hz t h1 (by omega)) (Or.inl rfl)
          rw [dtS, hpv, if_neg (by omega)] at hd
          refine r_iload (pc := 18) (i := 7) (tX11_determinant.at 11 rfl) rfl ?_
          refine r_iload_n (pc := 20) (i := 1) (tX11_determinant.at 12 rfl) rfl rfl ?_
          refine r_icmp_geN (pc := 21) 48 (tX11_determinant.at 13 rfl) (by decide) (by omega) (by omega) (fun _ => ?_) (fun c => by omega)
          refine r_iload (pc := 48) (i := 7) (tX11_determinant.at 27 rfl) rfl ?_
          refine r_iload_n (pc := 50) (i := 1) (tX11_determinant.at 28 rfl) rfl rfl ?_
          refine r_icmp_neN (pc := 51) 56 (tX11_determinant.at 29 rfl) (by decide) (by omega) (by omega) (fun c => by omega) (fun _ => ?_)
          refine r_lconst (pc := 54) (w := lI 0) (tX11_determinant.at 30 rfl) (by decide) ?_
          refine r_lret (pc := 55) (tX11_determinant.at 31 rfl) rfl (Nat.le_of_ble_eq_true rfl) (Nat.le_of_ble_eq_true rfl) ?_
          subst hPo
          rw [← hd]
          exact ⟨rfl, rfl, C, rfl⟩
        | succ q ih2 =>
          intro row hq hkr hz
          have e1 : C (6 * row + k) = A row k := hC row k (by omega) (by omega)
          refine r_iload (pc := 18) (i := 7) (tX11_determinant.at 11 rfl) rfl ?_
          refine r_iload_n (pc := 20) (i := 1) (tX11_determinant.at 12 rfl) rfl rfl ?_
          refine r_icmp_geN (pc := 21) 48 (tX11_determinant.at 13 rfl) (by decide) (by omega) (by omega) (fun c => by omega) (fun _ => ?_)
          refine r_aload_n (pc := 24) (i := 0) (tX11_determinant.at 14 rfl) rfl rfl ?_
          refine r_get (pc := 25) (tX11_determinant.at 15 rfl) gf_X11_39 (mH_0) rfl ?_
          refine r_bipush (pc := 28) (w := nI 6) (tX11_determinant.at 16 rfl) (by decide) ?_
          refine r_iload (pc := 30) (i := 7) (tX11_determinant.at 17 rfl) rfl ?_
          first | refine r_imulN (pc := 32) (tX11_determinant.at 18 rfl) ?_ | refine r_imulZ (pc := 32) (tX11_determinant.at 18 rfl) ?_ | refine r_imul (pc := 32) (tX11_determinant.at 18 rfl) ?_
          refine r_iload (pc := 33) (i := 6) (tX11_determinant.at 19 rfl) rfl ?_
          first | refine r_iaddN (pc := 35) (tX11_determinant.at 20 rfl) ?_ | refine r_iaddZ (pc := 35) (tX11_determinant.at 20 rfl) ?_ | refine r_iadd (pc := 35) (tX11_determinant.at 20 rfl) ?_
          refine r_lald (pc := 36) (tX11_determinant.at 21 rfl) (mH_sqr) (6 * row + k) (rfl) (by omega) (Nat.le_of_ble_eq_true rfl) ?_
          refine r_lconst (pc := 37) (w := lI 0) (tX11_determinant.at 22 rfl) (by decide) ?_
          rw [show lF (S.s_sqr C).sqr (6 * row + k) = lI (A row k) from congrArg lI e1]
          refine r_lc_ne (pc := 38) 48 (tX11_determinant.at 23 rfl) (tX11_determinant.at 24 rfl) (by decide) ((ok1 row hkr (by omega))) (⟨by omega, by omega⟩) (fun c => ?_) (fun c => ?_)
          · exact part2 row hkr (by omega) (pvR_is hkr (by omega) hz (Or.inr c)) c
          · first | refine r_iincN (pc := 42) (tX11_determinant.at 25 rfl) rfl (by decide) ?_ | refine r_iinc (pc := 42) (tX11_determinant.at 25 rfl) rfl rfl (by decide) ?_
            refine r_goto (pc := 45) 18 (tX11_determinant.at 26 rfl) (by decide) ?_
            refine ih2 (row + 1) (by omega) (by omega) (fun t h1 h2 => ?_)
            by_cases h3 : t = row
            · rw [h3]; exact c
            · exact hz t h1 (by omega)
      exact find (n - k) k (by omega) (Nat.le_refl _) (fun t h1 h2 => by omega)
  refine r_lconst (pc := 0) (w := lI 1) (tX11_determinant.at 0 rfl) (by decide) ?_
  refine r_lstore_n (pc := 1) (i := 2) (tX11_determinant.at 1 rfl) rfl (by decide) ?_
  refine r_lconst (pc := 2) (w := lI 1) (tX11_determinant.at 2 rfl) (by decide) ?_
  refine r_lstore (pc := 3) (i := 4) (tX11_determinant.at 3 rfl) (by decide) ?_
  refine r_iconst (pc := 5) (w := nI 0) (tX11_determinant.at 4 rfl) (by decide) ?_
  refine r_istore (pc := 6) (i := 6) (tX11_determinant.at 5 rfl) (by decide) ?_
  exact key1 n 0 A 1 1 S.sqr _ _ _ (by omega) hA ok ⟨by omega, by omega⟩ (by omega) hD
end

