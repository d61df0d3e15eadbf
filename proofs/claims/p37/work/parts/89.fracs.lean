/-! ===== fractions: both sides alike ===== -/
theorem rd_mul {g a b : Int} (hg : 0 < g) (hb : 0 < b) : rdA (g * a) (g * b) = rdA a b ∧ rdB (g * a) (g * b) = rdB a b := by
  have e : ((Int.gcd (g * a) (g * b) : Nat) : Int) = g * (Int.gcd a b : Nat) := by
    rw [Int.gcd_mul_left, Int.natCast_mul]
    congr 1
    omega
  unfold rdA rdB
  rw [e, Int.mul_tdiv_mul_of_pos _ _ hg, Int.mul_tdiv_mul_of_pos _ _ hg]
  exact ⟨rfl, rfl⟩
/-- equal crosswise: the same in lowest terms -/
theorem rd_cross {a b c d : Int} (hb : 0 < b) (hd : 0 < d) (h : a * d = c * b) : rdA a b = rdA c d ∧ rdB a b = rdB c d := by
  have e1 := rd_mul (a := a) hd hb
  have e2 := rd_mul (a := c) hb hd
  rw [Int.mul_comm d a, h, Int.mul_comm c b, Int.mul_comm d b] at e1
  exact ⟨e1.1.symm.trans e2.1, e1.2.symm.trans e2.2⟩
theorem rd_fact {n d : Int} (hd : 0 < d) : 0 < rdB n d ∧ rdB n d ≤ d ∧ (rdA n d).natAbs ≤ n.natAbs ∧ n = rdA n d * (Int.gcd n d : Nat) ∧ d = rdB n d * (Int.gcd n d : Nat) ∧ (0 : Int) < (Int.gcd n d : Nat) := by
  have hg : 0 < Int.gcd n d := Int.gcd_pos_of_ne_zero_right n (by omega)
  have e1 : rdA n d * (Int.gcd n d : Nat) = n := Int.tdiv_mul_cancel (Int.gcd_dvd_left ..)
  have e2 : rdB n d * (Int.gcd n d : Nat) = d := Int.tdiv_mul_cancel (Int.gcd_dvd_right ..)
  have hg' : (0 : Int) < (Int.gcd n d : Nat) := by omega
  have e3 : 0 < rdB n d := gt0_of hg' (by omega)
  refine ⟨e3, ?_, ?_, e1.symm, e2.symm, hg'⟩
  · have := Int.mul_le_mul_of_nonneg_left (show (1 : Int) ≤ (Int.gcd n d : Nat) by omega) (Int.le_of_lt e3)
    omega
  · have e4 := congrArg Int.natAbs e1
    rw [Int.natAbs_mul] at e4
    have e5 := Nat.mul_le_mul_left (rdA n d).natAbs (show 1 ≤ ((Int.gcd n d : Nat) : Int).natAbs by omega)
    omega
section
variable {W : Nat → Nat} {n i j : Nat} {g : Nat → Int}
theorem hit_eq (hW : gdW W n) (hg : ∀ k, k < n → (g k).natAbs ≤ 4455) (hi : i < n) (hj : j < n) (hw : (rcm W n i).testBit j = true) : okM W n i j g ∧ okMn W n (2 ^ j) i g ∧ muA W n i j g = frA (mqN W n (2 ^ j) i g) (mqD W n (2 ^ j) i g) ∧ muB W n i j g = frB (mqN W n (2 ^ j) i g) (mqD W n (2 ^ j) i g) ∧ 0 < muB W n i j g := by
  by_cases c : i = j
  · subst c
    have hT : (2 ^ i : Nat).testBit i = true := p2_bit.mpr rfl
    refine ⟨fun z => absurd rfl z, (fun z => by rw [hT] at z; cases z), ?_, ?_, ?_⟩
    · rw [muA, mqN, mqD, if_pos rfl, if_pos hT, if_pos hT, (fr_rd (by decide)).1]
    · rw [muB, mqN, mqD, if_pos rfl, if_pos hT, if_pos hT, (fr_rd (by decide)).2]
    · rw [muB, if_pos rfl]
      decide
  · have hT : (2 ^ j : Nat).testBit i = false := by
      cases q : (2 ^ j : Nat).testBit i with
      | false => rfl
      | true => exact absurd (p2_bit.mp q).symm c
    have ht : ∃ t, t < n ∧ (rcm W n i).testBit t = true ∧ (2 ^ j : Nat).testBit t = true := ⟨j, hj, hw, p2_bit.mpr rfl⟩
    obtain ⟨e1, e2, e3, e4, -, -, -⟩ := mn_eq hW hg hi hT ht
    refine ⟨fun _ => e1, mn_ok hW hg hi ht, ?_, ?_, ?_⟩
    · rw [muA, mqN, mqD, if_neg c, if_neg (by rw [hT]; intro z; cases z), if_neg (by rw [hT]; intro z; cases z), (fr_rd e4).1]
      exact e2
    · rw [muB, mqN, mqD, if_neg c, if_neg (by rw [hT]; intro z; cases z), if_neg (by rw [hT]; intro z; cases z), (fr_rd e4).2]
      exact e3
    · have e5 : muB W n i j g = rdB (mnN W n (2 ^ j) i g) (mnD W n (2 ^ j) i g) := by
        rw [muB, if_neg c]
        exact e3
      rw [e5]
      exact (rd_fact e4).1
theorem hit_sm (hW : gdW W n) (hg : ∀ k, k < n → (g k).natAbs ≤ 45) (hi : i < n) (hj : j < n) (hw : (rcm W n i).testBit j = true) : (muA W n i j g).natAbs ≤ 2480058000 ∧ muB W n i j g ≤ 184528125 := by
  by_cases c : i = j
  · rw [muA, muB, if_pos c, if_pos c]
    decide
  · have hT : (2 ^ j : Nat).testBit i = false := by
      cases q : (2 ^ j : Nat).testBit i with
      | false => rfl
      | true => exact absurd (p2_bit.mp q).symm c
    have ht : ∃ t, t < n ∧ (rcm W n i).testBit t = true ∧ (2 ^ j : Nat).testBit t = true := ⟨j, hj, hw, p2_bit.mpr rfl⟩
    have hg2 : ∀ k, k < n → (g k).natAbs ≤ 4455 := fun k hk => by have := hg k hk; omega
    obtain ⟨-, e2, e3, e4, -, -, -⟩ := mn_eq hW hg2 hi hT ht
    have b1 := mnN_45 hW hg hi hT ht
    have b2 := (mnD_45 (g := g) hW hi hT ht).2
    have f := rd_fact (n := mnN W n (2 ^ j) i g) e4
    have e5 : muB W n i j g = rdB (mnN W n (2 ^ j) i g) (mnD W n (2 ^ j) i g) := by
      rw [muB, if_neg c]
      exact e3
    have e6 : muA W n i j g = rdA (mnN W n (2 ^ j) i g) (mnD W n (2 ^ j) i g) := by
      rw [muA, if_neg c]
      exact e2
    rw [e5, e6]
    omega
theorem stG_45 (hW : gdW W n) : ∀ k, k < n → (stG W n k).natAbs ≤ 45 := by
  intro k hk
  have := deg_le hW.1 hk hW.2.1 hW.2.2.2
  unfold stG
  omega
theorem tdiv_abs (a b : Int) : (a.tdiv b).natAbs ≤ a.natAbs := by
  rw [Int.natAbs_tdiv]
  exact Nat.div_le_self _ _
theorem mul_abs {a b : Int} {x y : Nat} (ha : a.natAbs ≤ x) (hb : b.natAbs ≤ y) : (a * b).natAbs ≤ x * y := by
  rw [Int.natAbs_mul]
  exact Nat.mul_le_mul ha hb
/-- commuting, and all that it takes -/
theorem com_eq (hW : gdW W n) (hi : i < n) (hj : j < n) (hw : (rcm W n i).testBit j = true) : okCm W n i j ∧ okCq W n i j ∧ rdA (cmN W n i j) (cmD W n i j) = frA (cmA W n i j) (cmB W n i j) ∧ rdB (cmN W n i j) (cmD W n i j) = frB (cmA W n i j) (cmB W n i j) ∧ 0 < rdB (cmN W n i j) (cmD W n i j) ∧ (rdA (cmN W n i j) (cmD W n i j)).natAbs ≤ 1000000000000000000 ∧ rdB (cmN W n i j) (cmD W n i j) ≤ 34050628916015625 := by
  have h45 := stG_45 hW
  have hg2 : ∀ k, k < n → (stG W n k).natAbs ≤ 4455 := fun k hk => by have := h45 k hk; omega
  have hw2 := rcm_sym hW hi hj hw
  obtain ⟨a1, a2, a3, a4, a5⟩ := hit_eq hW hg2 hi hj hw
  obtain ⟨b1, b2, b3, b4, b5⟩ := hit_eq hW hg2 hj hi hw2
  obtain ⟨a6, a7⟩ := hit_sm hW h45 hi hj hw
  obtain ⟨b6, b7⟩ := hit_sm hW h45 hj hi hw2
  have eA : hA W n i j = muA W n i j (stG W n) := a3.symm
  have eB : hB W n i j = muB W n i j (stG W n) := a4.symm
  have eC : hA W n j i = muA W n j i (stG W n) := b3.symm
  have eD : hB W n j i = muB W n j i (stG W n) := b4.symm
  have e1 : cmN W n i j = muA W n i j (stG W n) * muB W n j i (stG W n) + muA W n j i (stG W n) * muB W n i j (stG W n) := rfl
  have e2 : cmD W n i j = muB W n i j (stG W n) * muB W n j i (stG W n) := rfl
  have e3 : cmA W n i j = cqN (muA W n i j (stG W n)) (muB W n i j (stG W n)) (muA W n j i (stG W n)) (muB W n j i (stG W n)) := by rw [cmA, eA, eB, eC, eD]
  have e4 : cmB W n i j = cqD (muB W n i j (stG W n)) (muB W n j i (stG W n)) := by rw [cmB, eB, eD]
  unfold okCm okCq
  rw [eB, eD]
  generalize muA W n i j (stG W n) = n1 at *
  generalize muB W n i j (stG W n) = d1 at *
  generalize muA W n j i (stG W n) = n2 at *
  generalize muB W n j i (stG W n) = d2 at *
  have hgp : 0 < Int.gcd d1 d2 := Int.gcd_pos_of_ne_zero_right d1 (by omega)
  have hgi : (0 : Int) < (Int.gcd d1 d2 : Nat) := by omega
  have q1 : d1.tdiv (Int.gcd d1 d2 : Nat) * (Int.gcd d1 d2 : Nat) = d1 := Int.tdiv_mul_cancel (Int.gcd_dvd_left ..)
  have q2 : d2.tdiv (Int.gcd d1 d2 : Nat) * (Int.gcd d1 d2 : Nat) = d2 := Int.tdiv_mul_cancel (Int.gcd_dvd_right ..)
  have k1 : cmN W n i j = (Int.gcd d1 d2 : Nat) * cmA W n i j := by
    rw [e1, e3]
    unfold cqN
    generalize d1.tdiv (Int.gcd d1 d2 : Nat) = c1 at *
    generalize d2.tdiv (Int.gcd d1 d2 : Nat) = c2 at *
    grind
  have k2 : cmD W n i j = (Int.gcd d1 d2 : Nat) * cmB W n i j := by
    rw [e2, e4]
    unfold cqD
    generalize d1.tdiv (Int.gcd d1 d2 : Nat) = c1 at *
    grind
  have p1 : 0 < cmD W n i j := by rw [e2]; exact Int.mul_pos a5 b5
  have p2 : 0 < cmB W n i j := gt0_of hgi (by rw [Int.mul_comm, ← k2]; exact p1)
  have p3 := rd_mul (a := cmA W n i j) hgi p2
  rw [← k1, ← k2] at p3
  have m1 := mul_abs (a := n1) (b := d2) a6 (show d2.natAbs ≤ 184528125 by omega)
  have m2 := mul_abs (a := n2) (b := d1) b6 (show d1.natAbs ≤ 184528125 by omega)
  have m3 := mul_abs (a := d1) (b := d2) (x := 184528125) (y := 184528125) (by omega) (by omega)
  have m4 := mul_abs (a := n1) (b := d2.tdiv (Int.gcd d1 d2 : Nat)) a6 (Nat.le_trans (tdiv_abs _ _) (show d2.natAbs ≤ 184528125 by omega))
  have m5 := mul_abs (a := n2) (b := d1.tdiv (Int.gcd d1 d2 : Nat)) b6 (Nat.le_trans (tdiv_abs _ _) (show d1.natAbs ≤ 184528125 by omega))
  have m6 := mul_abs (a := d1.tdiv (Int.gcd d1 d2 : Nat)) (b := d2) (x := 184528125) (y := 184528125) (Nat.le_trans (tdiv_abs _ _) (by omega)) (by omega)
  have f := rd_fact (n := cmN W n i j) p1
  have e3' : cmA W n i j = n1 * d2.tdiv (Int.gcd d1 d2 : Nat) + n2 * d1.tdiv (Int.gcd d1 d2 : Nat) := e3
  have e4' : cmB W n i j = d1.tdiv (Int.gcd d1 d2 : Nat) * d2 := e4
  have s1 : (cmN W n i j).natAbs ≤ 1000000000000000000 := by rw [e1]; omega
  have s2 : cmD W n i j ≤ 34050628916015625 := by rw [e2]; omega
  have s3 : (cmA W n i j).natAbs ≤ 1000000000000000000 := by rw [e3']; omega
  have s4 : (cmB W n i j).natAbs ≤ 34050628916015625 := by rw [e4']; omega
  refine ⟨⟨a1, b1, ⟨by omega, by omega⟩, p1, by omega⟩, ⟨a2, b2, ?_, ?_, by omega, ?_, ?_⟩, ?_, ?_, f.1, by omega, by omega⟩
  · unfold inF
    omega
  · unfold inF
    omega
  · unfold inF
    omega
  · unfold inF
    omega
  · rw [(fr_rd p2).1]
    exact p3.1
  · rw [(fr_rd p2).2]
    exact p3.2
theorem sdS_le (hW : gdW W n) {S : Nat} : ∀ u, u ≤ n → sdS W n S u ≤ 45 * u
  | 0, _ => Nat.le_refl _
  | u + 1, hu => by
    have ih := sdS_le hW (S := S) u (by omega)
    have := deg_le hW.1 (show u < n by omega) hW.2.1 hW.2.2.2
    rw [sdS]
    split <;> omega
theorem sdS_ge {S x : Nat} (hx : S.testBit x = true) : ∀ u, x < u → degN W x n ≤ sdS W n S u
  | 0, h => by omega
  | u + 1, h => by
    rw [sdS]
    by_cases c : x = u
    · rw [← c, if_pos hx]
      omega
    · have ih := sdS_ge hx u (by omega)
      split <;> omega
theorem sN_ge {f : Nat → Nat} {k : Nat} : ∀ c, k < c → f k ≤ sN f c
  | 0, h => by omega
  | c + 1, h => by
    rw [sN]
    by_cases e : k = c
    · rw [e]
      omega
    · have := sN_ge (f := f) (k := k) c (by omega)
      omega
theorem sdS_pos (hi : i < n) (hj : j < n) (hij : i ≠ j) (hw : (rcm W n i).testBit j = true) : 0 < sdS W n (rcm W n i) n := by
  by_cases c : ∃ b, b < n ∧ 0 < W (i * 6 + b)
  · obtain ⟨b, h1, h2⟩ := c
    have e1 := sN_ge (f := fun u => W (i * 6 + u)) n h1
    have e2 := sdS_ge (W := W) (n := n) (S := rcm W n i) rcm_self n hi
    have e3 : W (i * 6 + b) ≤ degN W i n := e1
    omega
  · exfalso
    refine hij (rcm_ind (W := W) (n := n) (x := i) (fun u => i = u) (fun a b ha hb h1 h2 => ?_) hi rfl hj hw)
    rw [← h1] at h2
    exact absurd ⟨b, hb, h2⟩ c
/-- the resistance -/
theorem res_eq (hW : gdW W n) (hi : i < n) (hj : j < n) (hw : (rcm W n i).testBit j = true) : okRs W n i j ∧ (i ≠ j → inF (rqN W n i j) ∧ inF (rqD W n i j * rqS W n i)) ∧ rsA W n i j = rqA W n i j ∧ rsB W n i j = rqB W n i j := by
  obtain ⟨-, -, e1, e2, e3, e4, e5⟩ := com_eq hW hi hj hw
  have r := rch_rcm (W := W) hi hW.1
  have eN : rqN W n i j = rdA (cmN W n i j) (cmD W n i j) := e1.symm
  have eD : rqD W n i j = rdB (cmN W n i j) (cmD W n i j) := e2.symm
  have hs : (sdS W n (rcm W n i) n : Int) ≤ 270 := by
    have := sdS_le hW (S := rcm W n i) n (Nat.le_refl _)
    have := hW.1
    omega
  unfold okRs rsA rsB rqA rqB rqS
  rw [eN, eD, r]
  generalize rdA (cmN W n i j) (cmD W n i j) = a at *
  generalize rdB (cmN W n i j) (cmD W n i j) = b at *
  by_cases c : i = j
  · rw [if_pos c, if_pos c, if_pos c, if_pos c]
    exact ⟨fun z => absurd c z, fun z => absurd c z, rfl, rfl⟩
  · have hp := sdS_pos hi hj c hw
    have hp2 : (0 : Int) < (sdS W n (rcm W n i) n : Nat) := by omega
    have m := mul_abs (a := b) (b := ((sdS W n (rcm W n i) n : Nat) : Int)) (x := 34050628916015625) (y := 270) (by omega) (by omega)
    have hpos : 0 < b * ((sdS W n (rcm W n i) n : Nat) : Int) := Int.mul_pos e3 hp2
    rw [if_neg c, if_neg c, if_neg c, if_neg c, (fr_rd hpos).1, (fr_rd hpos).2]
    refine ⟨fun _ => ⟨⟨by omega, by omega⟩, hpos, by omega⟩, fun _ => ⟨?_, ?_⟩, rfl, rfl⟩
    · unfold inF
      omega
    · unfold inF
      omega
end

