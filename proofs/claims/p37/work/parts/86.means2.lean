/-! ===== a mean: both sides alike, the values ===== -/
section
variable {W : Nat → Nat} {n S x : Nat} {q : Nat → Bool} {g : Nat → Int}
/-- the component's last column put in the place of the one before -/
theorem num_swap {A B : Nat → Nat → Int} {m : Nat} (hm : m ≤ 5) (h1 : 1 ≤ m) (h : ∀ i j, i < m → j < m → B i j = if j + 1 = m then A i m else A i j) : bm A (m - 1) (m - 1) m = lm B m := by
  obtain ⟨k, rfl⟩ : ∃ k, m = k + 1 := ⟨m - 1, by omega⟩
  rw [show k + 1 - 1 = k by omega, bm_dt A (by omega), lm_dt B hm]
  refine dt_cong (k + 1) _ _ (fun i j hi hj => ?_)
  show A (if i < k then i else k) (if j < k then j else k + 1) = B (if i < k + 1 - 1 then i else k + 1 - 1) (if j < k + 1 - 1 then j else k + 1 - 1)
  rw [show k + 1 - 1 = k by omega, show (if i < k then i else k) = i by split <;> omega, show (if j < k then j else k) = j by split <;> omega, h i j hi hj]
  by_cases c : j < k
  · rw [if_pos c, if_neg (by omega)]
  · rw [if_neg c, if_pos (by omega)]
theorem mean_num (hx : x < n) (hS : ∀ u, u < n → S.testBit u = q u) (hq : q x = true) (hm : (ascL q n).length ≤ 5) : bm (aug W n g (unkL S x n)) ((ascL q n).length - 1) ((ascL q n).length - 1) (ascL q n).length = lm (rMt W n (ascL q n) g (ascL q x).length) (ascL q n).length := by
  have hp := asc_lt q hx hq
  have hlen := unk_len hS hx hq
  rw [← lm_cy (rMt W n (ascL q n) g (ascL q x).length) hm hp]
  refine num_swap hm (by omega) (fun i j hi hj => ?_)
  have ei := unk_get hS hx hq hi
  have ej := unk_get hS hx hq hj
  show rMt W n (ascL q n) g (ascL q x).length (cyP (ascL q n).length (ascL q x).length i) (cyP (ascL q n).length (ascL q x).length j) = _
  unfold rMt
  rw [← ei, ← ej]
  by_cases c : j + 1 = (ascL q n).length
  · rw [if_pos c, if_pos (by rw [(cyP_p hp hj).mpr c]), aug, if_pos hlen.symm]
  · rw [if_neg c, if_neg (fun z => c ((cyP_p hp hj).mp (by omega))), aug, if_neg (by omega)]
    rw [lpl_lap (unk_enu hS hx hq) hi hj]
    rfl
theorem mean_den (hx : x < n) (hS : ∀ u, u < n → S.testBit u = q u) (hq : q x = true) (hm : (ascL q n).length ≤ 5) : lm (aug W n g (unkL S x n)) (ascL q n).length = lm (rMt W n (ascL q n) g (-1)) (ascL q n).length := by
  have hp := asc_lt q hx hq
  have hlen := unk_len hS hx hq
  rw [← lm_cy (rMt W n (ascL q n) g (-1)) hm hp]
  refine lm_cong hm (fun i j hi hj => ?_)
  have ei := unk_get hS hx hq hi
  have ej := unk_get hS hx hq hj
  show _ = rMt W n (ascL q n) g (-1) (cyP (ascL q n).length (ascL q x).length i) (cyP (ascL q n).length (ascL q x).length j)
  unfold rMt
  rw [← ei, ← ej, if_neg (by omega), aug, if_neg (by omega), lpl_lap (unk_enu hS hx hq) hi hj]
  rfl
/-- what is wanted of the set: all is reached from x, and so is one that is not in it -/
def lkq (W : Nat → Nat) (n x : Nat) (q : Nat → Bool) : Prop := (∀ u, u < n → q u = true → (rcm W n x).testBit u = true) ∧ ∃ t, t < n ∧ (rcm W n x).testBit t = true ∧ q t = false
theorem lkq.five (h : lkq W n x q) (hn : n ≤ 6) : (ascL q n).length ≤ 5 := by
  obtain ⟨-, t, h1, -, h3⟩ := h
  have := asc_miss h1 h3
  omega
theorem unk_iS (hx : x < n) (hS : ∀ u, u < n → S.testBit u = q u) (hq : q x = true) {t : Nat} (ht : q t = false) : iS (fun i => (unkL S x n).getD i 0) (ascL q n).length t = false := by
  cases c : iS (fun i => (unkL S x n).getD i 0) (ascL q n).length t with
  | false => rfl
  | true =>
    obtain ⟨j, h1, h2⟩ := iS_iff.mp c
    have h2' : (unkL S x n).getD j 0 = t := h2
    rw [unk_get hS hx hq h1] at h2'
    have := asc_q (q := q) (cyP_lt (asc_lt q hx hq) h1)
    rw [h2', ht] at this
    cases this
/-- symmetric, nothing on the diagonal -/
def gd3 (W : Nat → Nat) (n : Nat) : Prop := n ≤ 6 ∧ (∀ x, x < n → W (x * 6 + x) = 0) ∧ ∀ x y, x < n → y < n → W (x * 6 + y) = W (y * 6 + x)
theorem gdW.w3 (h : gdW W n) : gd3 W n := ⟨h.1, h.2.1, h.2.2.1⟩
/-- every pivot of the component lies above 0 -/
theorem mean_piv (hW : gd3 W n) (hx : x < n) (hS : ∀ u, u < n → S.testBit u = q u) (hq : q x = true) (hk : lkq W n x q) : ∀ k, k ≤ (ascL q n).length → 0 < lm (aug W n g (unkL S x n)) k := by
  have hm := hk.five hW.1
  have hs := unk_enu hS hx hq
  have hlen := unk_len hS hx hq
  have hA : ∀ i j, i < (ascL q n).length → j < (ascL q n).length → aug W n g (unkL S x n) i j = lapM W n (fun i => (unkL S x n).getD i 0) i j := by
    intro i j hi hj
    unfold aug lapM
    rw [if_neg (by omega)]
  obtain ⟨h1, t, h2, h3, h4⟩ := hk
  have hl := lap_leak hs hW.1 hW.2.1 hW.2.2 hA hx h2 h3 (unk_iS hx hS hq h4) (fun i hi => by
    have e := unk_get hS hx hq hi
    have e2 := asc_q (q := q) (cyP_lt (asc_lt q hx hq) hi)
    have e3 := hs.1 i hi
    show (rcm W n x).testBit ((unkL S x n).getD i 0) = true
    refine h1 _ e3 ?_
    rw [e]
    exact e2)
  exact fun k hk => (mI.all hm (lap_mI hs hW.2.1 hA) hl k hk).1.1
theorem elm_ok {A : Nat → Nat → Int} {m : Nat} (hm : m ≤ 5) (h : ∀ t, t < m → lm A (t + 1) ≠ 0) : ∀ t, t < m → elm A t t t ≠ 0 := by
  intro t ht
  rw [(elm_bm t (by omega) (fun u hu => h u (by omega))).1 t t (Nat.le_refl _) (Nat.le_refl _)]
  exact h t ht
theorem mean_okA (hW : gdW W n) (hg : ∀ k, k < n → (g k).natAbs ≤ 4455) (hx : x < n) (hS : ∀ u, u < n → S.testBit u = q u) (hq : q x = true) (hk : lkq W n x q) : okA (aug W n g (unkL S x n)) (unkL S x n).length := by
  have hlen := unk_len hS hx hq
  have hm := hk.five hW.1
  refine okA_of (by omega) (unkL_len hx).2 (fun a ha => aug_rowC hW (by rw [hlen]; exact unk_enu hS hx hq) hg ha) (fun _ => ?_)
  rw [hlen]
  exact mean_piv hW.w3 hx hS hq hk _ (Nat.le_refl _)
/-- the component's fraction -/
theorem mean_sl (hW : gd3 W n) (hx : x < n) (hS : ∀ u, u < n → S.testBit u = q u) (hq : q x = true) (hk : lkq W n x q) : slA (aug W n g (unkL S x n)) (unkL S x n).length = rdA (lm (rMt W n (ascL q n) g (ascL q x).length) (ascL q n).length) (lm (rMt W n (ascL q n) g (-1)) (ascL q n).length) ∧ slB (aug W n g (unkL S x n)) (unkL S x n).length = rdB (lm (rMt W n (ascL q n) g (ascL q x).length) (ascL q n).length) (lm (rMt W n (ascL q n) g (-1)) (ascL q n).length) ∧ 0 < lm (rMt W n (ascL q n) g (-1)) (ascL q n).length := by
  have hm := hk.five hW.1
  have hlen := unk_len hS hx hq
  have hp := mean_piv (g := g) hW hx hS hq hk
  have h1 : 1 ≤ (ascL q n).length := by have := asc_lt q hx hq; omega
  have hz := elm_ok (A := aug W n g (unkL S x n)) hm (fun t ht => by have := hp (t + 1) (by omega); omega)
  have e1 := elm_num hm h1 hz
  have e2 := elm_den hm h1 hz
  rw [mean_num hx hS hq hm] at e1
  rw [mean_den hx hS hq hm] at e2
  rw [slA, slB, hlen, if_pos hz, if_pos hz, e1, e2]
  refine ⟨rfl, rfl, ?_⟩
  rw [← mean_den (S := S) hx hS hq hm]
  exact hp _ (Nat.le_refl _)
/-- the reference's determinants: in range, and how large -/
theorem mean_ref (hW : gdW W n) (hg : ∀ k, k < n → (g k).natAbs ≤ 4455) (hx : x < n) (hq : q x = true) (hm : (ascL q n).length ≤ 5) {z : Int} (hz : z = (ascL q x).length ∨ z = -1) : okDt (ascL q n).length (ascL q n).length 0 (rMt W n (ascL q n) g z) 1 ∧ dtS (ascL q n).length (ascL q n).length 0 (rMt W n (ascL q n) g z) 1 1 = lm (rMt W n (ascL q n) g z) (ascL q n).length ∧ (lm (rMt W n (ascL q n) g z) (ascL q n).length).natAbs ≤ Gb (ascL q n).length := by
  have hp := asc_lt q hx hq
  have hr : ∀ a, a < (ascL q n).length → rowC (rMt W n (ascL q n) g z a) (ascL q n).length (ascL q x).length := fun a ha => rMt_rowC hW asc_enu hg hz hp ha
  have e := lm_H hr (Nat.le_refl _) (Nat.le_refl _) hm
  unfold Hb at e
  rw [if_neg (by omega)] at e
  exact ⟨okDt_of hm hr, dtS_of hm _, e⟩
end
section
variable {W : Nat → Nat} {n x T : Nat} {g : Nat → Int}
theorem unP_bit {S T : Nat} (hS : S < 64) : ∀ u, (dif S T).testBit u = unP S T u := by
  intro u
  unfold dif unP
  rw [Nat.testBit_and, Nat.testBit_xor, show (63 : Nat) = 2 ^ 6 - 1 from rfl, Nat.testBit_two_pow_sub_one]
  by_cases c : u < 6
  · rw [decide_eq_true c, Bool.true_xor]
  · rw [Nat.testBit_lt_two_pow (Nat.lt_of_lt_of_le hS (show 2 ^ 6 ≤ 2 ^ u from Nat.pow_le_pow_right (by omega) (by omega))), Bool.false_and, Bool.false_and]
/-- a target among what is reached -/
theorem lkq_of (ht : ∃ t, t < n ∧ (rcm W n x).testBit t = true ∧ T.testBit t = true) : lkq W n x (unP (rcm W n x) T) := by
  obtain ⟨t, h1, h2, h3⟩ := ht
  refine ⟨fun u _ hu => ?_, t, h1, h2, ?_⟩
  · unfold unP at hu
    rw [Bool.and_eq_true] at hu
    exact hu.1
  · unfold unP
    rw [h3]
    cases (rcm W n x).testBit t <;> rfl
theorem Gb_inF : ∀ k, k ≤ 5 → Gb k ≤ 9223372036854775806 := by decide
theorem mn_ok (hW : gdW W n) (hg : ∀ k, k < n → (g k).natAbs ≤ 4455) (hx : x < n) (ht : ∃ t, t < n ∧ (rcm W n x).testBit t = true ∧ T.testBit t = true) : okMn W n T x g := by
  intro hT
  have hk := lkq_of (x := x) ht
  have hm := hk.five hW.1
  have hq := unP_self (W := W) (n := n) hT
  have r1 := mean_ref hW hg hx hq hm (Or.inl rfl)
  have r2 := mean_ref hW hg hx hq hm (z := -1) (Or.inr rfl)
  have b := Gb_inF _ hm
  refine ⟨⟨r1.1, ?_⟩, ⟨r2.1, ?_⟩⟩
  · unfold mnN mnL mnR inF
    rw [r1.2.1]
    have := r1.2.2
    omega
  · unfold mnD mnL inF
    rw [r2.2.1]
    have := r2.2.2
    omega
/-- the two sides' means -/
theorem mn_eq (hW : gdW W n) (hg : ∀ k, k < n → (g k).natAbs ≤ 4455) (hx : x < n) (hT : T.testBit x = false) (ht : ∃ t, t < n ∧ (rcm W n x).testBit t = true ∧ T.testBit t = true) : okA (aug W n g (unkL (dif (rch W n x) T) x n)) (unkL (dif (rch W n x) T) x n).length ∧ slA (aug W n g (unkL (dif (rch W n x) T) x n)) (unkL (dif (rch W n x) T) x n).length = rdA (mnN W n T x g) (mnD W n T x g) ∧ slB (aug W n g (unkL (dif (rch W n x) T) x n)) (unkL (dif (rch W n x) T) x n).length = rdB (mnN W n T x g) (mnD W n T x g) ∧ 0 < mnD W n T x g ∧ (mnN W n T x g).natAbs ≤ Gb (mnL W n T x).length ∧ (mnD W n T x g).natAbs ≤ Gb (mnL W n T x).length ∧ (mnL W n T x).length ≤ 5 := by
  have hk := lkq_of (x := x) ht
  have hm := hk.five hW.1
  have hq := unP_self (W := W) (n := n) hT
  have r1 := mean_ref hW hg hx hq hm (Or.inl rfl)
  have r2 := mean_ref hW hg hx hq hm (z := -1) (Or.inr rfl)
  have hn6 := hW.1
  have hS : ∀ u, u < n → (dif (rch W n x) T).testBit u = unP (rcm W n x) T u := fun u _ => by
    rw [rch_rcm hx hW.1]
    exact unP_bit (rcm_lt (by omega) hW.1) u
  have e1 : mnN W n T x g = lm (rMt W n (ascL (unP (rcm W n x) T) n) g (ascL (unP (rcm W n x) T) x).length) (ascL (unP (rcm W n x) T) n).length := r1.2.1
  have e2 : mnD W n T x g = lm (rMt W n (ascL (unP (rcm W n x) T) n) g (-1)) (ascL (unP (rcm W n x) T) n).length := r2.2.1
  obtain ⟨s1, s2, s3⟩ := mean_sl (g := g) hW.w3 hx hS hq hk
  rw [e1, e2]
  exact ⟨mean_okA hW hg hx hS hq hk, s1, s2, s3, r1.2.2, r2.2.2, hm⟩
end

