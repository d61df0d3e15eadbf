/-! ===== the equations of one step hold for the component's fractions ===== -/
section
variable {W : Nat → Nat} {n m : Nat} {s : Nat → Nat}
/-- each of s leaks somewhere -/
theorem leak_each {A : Nat → Nat → Int} (hs : enu s m n) (hz : ∀ x, x < n → W (x * 6 + x) = 0) (hy : ∀ x y, x < n → y < n → W (x * 6 + y) = W (y * 6 + x)) (hA : ∀ i j, i < m → j < m → A i j = lapM W n s i j) (hr : ∀ i, i < m → ∃ t, t < n ∧ (rcm W n (s i)).testBit t = true ∧ iS s m t = false) : ∀ i, i < m → Lks A m 0 i := by
  have key : ∀ a b, a < n → b < n → (∀ i, i < m → s i = a → Lks A m 0 i) → 0 < W (a * 6 + b) → ∀ i, i < m → s i = b → Lks A m 0 i := by
    intro a b ha hb h1 h2 i hi hsi
    have h3 : 0 < W (s i * 6 + a) := by rw [hsi, ← hy a b ha hb]; exact h2
    cases c : iS s m a with
    | false =>
      refine Lks.leak ?_
      have e : rS A m 0 i = zS (lapM W n s i) 0 m := zS_cong m (fun j _ hj => hA i j hi (by omega))
      rw [e]
      exact (lap_row hs hz hi).2 ⟨a, ha, c, h3⟩
    | true =>
      obtain ⟨j, hj, hsj⟩ := iS_iff.mp c
      have hij : i ≠ j := by
        intro z
        rw [z, hsj] at h3
        have := hz a ha
        omega
      refine Lks.step hij (Nat.zero_le _) hj ?_ (h1 j hj hsj)
      show A i j < 0
      rw [hA i j hi hj, lapM, if_neg hij, hsj]
      omega
  intro i hi
  obtain ⟨t, ht, hrt, hst⟩ := hr i hi
  have ht' : ∀ i, i < m → s i = t → Lks A m 0 i := by
    intro i hi e
    rw [iS_iff.mpr ⟨i, hi, e⟩] at hst
    cases hst
  by_cases cx : ∀ j, j < m → s j = s i → Lks A m 0 j
  · exact cx i hi rfl
  · refine absurd ht' (rcm_ind (W := W) (n := n) (fun a => ¬ ∀ i, i < m → s i = a → Lks A m 0 i) (fun a b ha hb h1 h2 h3 => h1 ?_) (hs.1 i hi) cx ht hrt)
    exact key b a hb ha h3 (by rw [← hy a b ha hb]; exact h2)
end
section
variable {W : Nat → Nat} {n : Nat} {q : Nat → Bool} {g : Nat → Int}
/-- the matrix of the unknown vertices, the numerators, the denominator -/
def ltA (W : Nat → Nat) (n : Nat) (q : Nat → Bool) : Nat → Nat → Int := lapM W n (fun i => (ascL q n).getD i 0)
def nuX (W : Nat → Nat) (n : Nat) (q : Nat → Bool) (g : Nat → Int) (u : Nat) : Int := lm (rMt W n (ascL q n) g (ascL q u).length) (ascL q n).length
def deX (W : Nat → Nat) (n : Nat) (q : Nat → Bool) : Int := lm (ltA W n q) (ascL q n).length
theorem asc_iS' {u : Nat} (hu : u < n) : iS (fun i => (ascL q n).getD i 0) (ascL q n).length u = q u := by
  cases c : q u with
  | false => exact asc_iS c
  | true => exact iS_iff.mpr ⟨(ascL q u).length, asc_lt q hu c, asc_get q c n hu⟩
theorem de_eq (hm : (ascL q n).length ≤ 5) : lm (rMt W n (ascL q n) g (-1)) (ascL q n).length = deX W n q := by
  refine lm_cong hm fun i j hi hj => ?_
  unfold rMt
  rw [if_neg (by omega)]
  exact lpl_lap asc_enu hi hj
theorem nu_eq (hm : (ascL q n).length ≤ 5) {p : Nat} (z : Nat) (hz : z = p) : lm (rMt W n (ascL q n) g z) (ascL q n).length = lm (rpC (ltA W n q) p (fun i => g ((ascL q n).getD i 0))) (ascL q n).length := by
  subst hz
  refine lm_cong hm fun i j hi hj => ?_
  unfold rMt rpC
  by_cases c : j = z
  · rw [if_pos (by omega), if_pos c]
  · rw [if_neg (by omega), if_neg c]
    exact lpl_lap asc_enu hi hj
/-- a sum over a row of the matrix -/
theorem row_sum (h0 : ∀ x, x < n → W (x * 6 + x) = 0) {w : Nat} (hw : w < n) (hq : q w = true) (X : Nat → Int) : zS (fun c => ltA W n q (ascL q w).length c * X ((ascL q n).getD c 0)) 0 (ascL q n).length = (degN W w n : Nat) * X w - zS (fun u => if q u = true then ((W (w * 6 + u) : Nat) : Int) * X u else 0) 0 n := by
  have hp := asc_lt q hw hq
  have hg := asc_get q hq n hw
  have e1 : zS (fun c => ltA W n q (ascL q w).length c * X ((ascL q n).getD c 0)) 0 (ascL q n).length = zS (fun c => (if c = (ascL q w).length then (degN W w n : Nat) * X w else 0) - ((W (w * 6 + (ascL q n).getD c 0) : Nat) : Int) * X ((ascL q n).getD c 0)) 0 (ascL q n).length := by
    refine zS_cong _ fun c _ hc => ?_
    unfold ltA lapM
    by_cases e : c = (ascL q w).length
    · rw [e, if_pos rfl, if_pos rfl]
      show (degN W ((ascL q n).getD _ 0) n : Int) * X ((ascL q n).getD _ 0) = _
      rw [hg, h0 w hw]
      simp
    · rw [if_neg (fun z => e z.symm), if_neg e]
      show -((W ((ascL q n).getD _ 0 * 6 + _) : Nat) : Int) * _ = _
      rw [hg, Int.zero_sub, Int.neg_mul]
  rw [e1, zS_sub (fun c => if c = (ascL q w).length then (degN W w n : Nat) * X w else 0) (fun c => ((W (w * 6 + (ascL q n).getD c 0) : Nat) : Int) * X ((ascL q n).getD c 0)), zS_one, if_pos hp]
  have e2 := zS_enu (asc_enu (q := q) (n := n)) (fun u => ((W (w * 6 + u) : Nat) : Int) * X u) _ (Nat.le_refl _)
  try dsimp only at e2
  rw [e2]
  congr 1
  refine zS_cong n fun u _ hu => ?_
  rw [asc_iS' (by omega)]
/-- the equation at w -/
theorem eq_one (h0 : ∀ x, x < n → W (x * 6 + x) = 0) (hm : (ascL q n).length ≤ 5) {w : Nat} (hw : w < n) (hq : q w = true) : (degN W w n : Nat) * nuX W n q g w - zS (fun u => if q u = true then ((W (w * 6 + u) : Nat) : Int) * nuX W n q g u else 0) 0 n = g w * deX W n q := by
  have hp := asc_lt q hw hq
  have e := cram hm (ltA W n q) (fun i => g ((ascL q n).getD i 0)) hp
  try dsimp only at e
  rw [asc_get q hq n hw] at e
  rw [← row_sum h0 hw hq]
  show _ = g w * lm (ltA W n q) (ascL q n).length
  rw [← e]
  refine zS_cong _ fun c _ hc => ?_
  obtain ⟨u, hu, hqu, he⟩ := asc_sur q n c (by omega)
  congr 1
  unfold nuX
  rw [nu_eq hm _ rfl, ← he, asc_get q hqu n hu]
end
/-- the smallest of some -/
theorem arg_min {q : Nat → Bool} {X : Nat → Int} : ∀ n, (∃ w, w < n ∧ q w = true) → ∃ w, w < n ∧ q w = true ∧ ∀ u, u < n → q u = true → X w ≤ X u
  | 0, h => by obtain ⟨w, h, -⟩ := h; omega
  | n + 1, h => by
    by_cases c : ∃ w, w < n ∧ q w = true
    · obtain ⟨w, h1, h2, h3⟩ := arg_min (X := X) n c
      by_cases e : q n = true ∧ X n < X w
      · refine ⟨n, by omega, e.1, fun u hu hq => ?_⟩
        by_cases d : u = n
        · rw [d]; exact Int.le_refl _
        · have := h3 u (by omega) hq
          omega
      · refine ⟨w, by omega, h2, fun u hu hq => ?_⟩
        by_cases d : u = n
        · rw [d] at hq ⊢
          have : ¬ X n < X w := fun z => e ⟨hq, z⟩
          omega
        · exact h3 u (by omega) hq
    · obtain ⟨w, h1, h2⟩ := h
      have hw : w = n := by
        by_cases d : w = n
        · exact d
        · exact absurd ⟨w, by omega, h2⟩ c
      refine ⟨w, h1, h2, fun u hu hq => ?_⟩
      have hu2 : u = n := by
        by_cases d : u = n
        · exact d
        · exact absurd ⟨u, by omega, hq⟩ c
      rw [hw, hu2]
      exact Int.le_refl _
section
variable {W : Nat → Nat} {n : Nat} {q : Nat → Bool} {g : Nat → Int}
/-- all of q may reach a vertex outside of it -/
def lkE (W : Nat → Nat) (n : Nat) (q : Nat → Bool) : Prop := ∀ u, u < n → q u = true → ∃ t, t < n ∧ (rcm W n u).testBit t = true ∧ q t = false
theorem lkE.five (h : lkE W n q) (hn : n ≤ 6) : (ascL q n).length ≤ 5 := by
  by_cases c : ∃ u, u < n ∧ q u = true
  · obtain ⟨u, h1, h2⟩ := c
    obtain ⟨t, t1, -, t3⟩ := h u h1 h2
    have := asc_miss (q := q) t1 t3
    omega
  · have : (ascL q n).length = 0 := by
      rcases Nat.eq_zero_or_pos (ascL q n).length with z | z
      · exact z
      · obtain ⟨x, h1, h2, -⟩ := asc_sur q n 0 z
        exact absurd ⟨x, h1, h2⟩ c
    omega
theorem de_pos (hW : gdW W n) (h : lkE W n q) : 0 < deX W n q ∧ deX W n q ≤ 45 ^ (ascL q n).length := by
  have hm := h.five hW.1
  have hs := asc_enu (q := q) (n := n)
  have h1 : mI (ltA W n q) (ascL q n).length 0 := lap_mI hs hW.2.1 (fun i j _ _ => rfl)
  have hl : ∀ i, i < (ascL q n).length → Lks (ltA W n q) (ascL q n).length 0 i := leak_each hs hW.2.1 hW.2.2.1 (fun i j _ _ => rfl) (fun i hi => by
    obtain ⟨t, t1, t2, t3⟩ := h _ (hs.1 i hi) (asc_q hi)
    exact ⟨t, t1, t2, asc_iS t3⟩)
  have hall := mI.all hm h1 hl
  refine ⟨(hall _ (Nat.le_refl _)).1.1, mI.prod hm (fun k hk => (hall k hk).1) (fun i hi => ?_) _ (Nat.le_refl _)⟩
  show lapM W n _ i i ≤ 45
  unfold lapM
  rw [if_pos rfl]
  have := deg_le hW.1 (hs.1 i hi) hW.2.1 hW.2.2.2
  omega
/-- no numerator is below 0 -/
theorem nu_ge (hW : gdW W n) (h : lkE W n q) (hg : ∀ u, u < n → 0 ≤ g u) : ∀ u, u < n → q u = true → 0 ≤ nuX W n q g u := by
  intro u0 hu0 hq0
  obtain ⟨w, w1, w2, w3⟩ := arg_min (X := nuX W n q g) n ⟨u0, hu0, hq0⟩
  have hD := (de_pos hW h).1
  rcases Int.lt_or_le (nuX W n q g w) 0 with hneg | hpos
  · exfalso
    obtain ⟨t, t1, t2, t3⟩ := h w w1 w2
    have hP : ∀ a b, a < n → b < n → (q a = true ∧ nuX W n q g a = nuX W n q g w) → 0 < W (a * 6 + b) → (q b = true ∧ nuX W n q g b = nuX W n q g w) := by
      intro a b ha hb ⟨qa, xa⟩ hab
      have e := eq_one (g := g) hW.2.1 (h.five hW.1) ha qa
      have e2 : ((degN W a n : Nat) : Int) = zS (fun u => ((W (a * 6 + u) : Nat) : Int)) 0 n := (zS_sN _ n).symm
      have hmul := zS_mul (fun u => ((W (a * 6 + u) : Nat) : Int)) (nuX W n q g a) 0 n
      rw [← e2] at hmul
      rw [hmul, ← zS_sub (fun u => ((W (a * 6 + u) : Nat) : Int) * nuX W n q g a) (fun u => if q u = true then ((W (a * 6 + u) : Nat) : Int) * nuX W n q g u else 0)] at e
      have hle : ∀ u, 0 ≤ u → u < 0 + n → ((W (a * 6 + u) : Nat) : Int) * nuX W n q g a - (if q u = true then ((W (a * 6 + u) : Nat) : Int) * nuX W n q g u else 0) ≤ 0 := by
        intro u _ hu
        have hw0 : (0 : Int) ≤ (W (a * 6 + u) : Nat) := Int.natCast_nonneg _
        by_cases c : q u = true
        · rw [if_pos c, ← Int.mul_sub]
          have := w3 u (by omega) c
          exact Int.mul_nonpos_of_nonneg_of_nonpos hw0 (by omega)
        · rw [if_neg c, Int.sub_zero]
          exact Int.mul_nonpos_of_nonneg_of_nonpos hw0 (by omega)
      obtain ⟨z1, z2⟩ := zS_le0 n hle
      have hge : 0 ≤ g a * deX W n q := Int.mul_nonneg (hg a ha) (Int.le_of_lt hD)
      have z3 := z2 (by rw [e]; exact hge) b (Nat.zero_le _) (by omega)
      have hp : (0 : Int) < (W (a * 6 + b) : Nat) := by omega
      by_cases c : q b = true
      · rw [if_pos c, ← Int.mul_sub] at z3
        refine ⟨c, ?_⟩
        rcases Int.mul_eq_zero.mp z3 with k | k
        · omega
        · omega
      · rw [if_neg c, Int.sub_zero] at z3
        rcases Int.mul_eq_zero.mp z3 with k | k
        · omega
        · omega
    have := rcm_ind (W := W) (n := n) (fun a => q a = true ∧ nuX W n q g a = nuX W n q g w) hP w1 ⟨w2, rfl⟩ t1 t2
    rw [t3] at this
    exact absurd this.1 (by decide)
  · have := w3 u0 hu0 hq0
    omega
/-- the fraction's denominator divides the determinant of a larger set -/
theorem de_dvd (hW : gdW W n) {U : Nat → Bool} (h : lkE W n q) (hU : lkE W n U) (hsub : ∀ u, u < n → q u = true → U u = true) (hcl : ∀ a b, a < n → b < n → U a = true → q a = false → q b = true → W (a * 6 + b) = 0) {v : Nat} (hv : v < n) (hq : q v = true) : rdB (nuX W n q g v) (deX W n q) ∣ deX W n U := by
  have hmU := hU.five hW.1
  have hm := h.five hW.1
  have hD := (de_pos hW h).1
  have hp := asc_lt U hv (hsub v hv hq)
  have key := cramU (A := ltA W n U) (k := deX W n q) (g := fun i => if q ((ascL U n).getD i 0) = true then g ((ascL U n).getD i 0) else 0) (y := fun i => if q ((ascL U n).getD i 0) = true then nuX W n q g ((ascL U n).getD i 0) else 0) hmU hp (fun i hi => by
    obtain ⟨a, ha, hUa, he⟩ := asc_sur U n i hi
    have hga := asc_get U hUa n ha
    rw [← he]
    try dsimp only
    rw [hga]
    have e := row_sum (W := W) (q := U) hW.2.1 ha hUa (fun u => if q u = true then nuX W n q g u else 0)
    try dsimp only at e
    rw [e]
    by_cases c : q a = true
    · rw [if_pos c, if_pos c, Int.mul_comm (deX W n q), ← eq_one (g := g) hW.2.1 hm ha c]
      congr 1
      refine zS_cong n fun u _ hu => ?_
      by_cases d : q u = true
      · rw [if_pos d, if_pos d, if_pos (hsub u (by omega) d)]
      · rw [if_neg d, if_neg d]
        split <;> simp
    · rw [if_neg c, if_neg c, Int.mul_zero, Int.mul_zero, Int.zero_sub]
      have : zS (fun u => if U u = true then ((W (a * 6 + u) : Nat) : Int) * (if q u = true then nuX W n q g u else 0) else 0) 0 n = zS (fun _ => 0) 0 n := by
        refine zS_cong n fun u _ hu => ?_
        by_cases d : q u = true
        · rw [hcl a u ha (by omega) hUa (by simpa using c) d]
          simp
        · rw [if_neg d]
          split <;> simp
      rw [this]
      have z : ∀ c, zS (fun _ => 0) 0 c = 0 := fun c => by
        induction c with
        | zero => rfl
        | succ c ih => show zS (fun _ => 0) 0 c + 0 = 0; rw [ih]; rfl
      rw [z]
      rfl)
  try dsimp only at key
  rw [asc_get U (hsub v hv hq) n hv, if_pos hq] at key
  obtain ⟨f1, f2, f3, f4, f5, f6⟩ := rd_fact (n := nuX W n q g v) hD
  generalize hB : rdB (nuX W n q g v) (deX W n q) = B at f1 f2 f5 ⊢
  generalize hA : rdA (nuX W n q g v) (deX W n q) = A at f3 f4
  generalize hG : ((Int.gcd (nuX W n q g v) (deX W n q) : Nat) : Int) = G at f4 f5 f6
  have hcop : Int.gcd A B = 1 := by
    have e1 : Int.gcd (nuX W n q g v) (deX W n q) = Int.gcd (A * G) (B * G) := by rw [← f4, ← f5]
    rw [Int.gcd_mul_right] at e1
    have e2 : (G.natAbs : Int) = G := by omega
    have e3 : Int.gcd (nuX W n q g v) (deX W n q) = G.natAbs := by omega
    rw [e3] at e1
    have : 0 < G.natAbs := by omega
    exact Nat.eq_of_mul_eq_mul_right this (e1.symm.trans (Nat.one_mul _).symm)
  have key2 : A * (lm (ltA W n U) (ascL U n).length) = B * lm (rpC (ltA W n U) (ascL U v).length (fun i => if q ((ascL U n).getD i 0) = true then g ((ascL U n).getD i 0) else 0)) (ascL U n).length := by
    refine Int.eq_of_mul_eq_mul_right (show G ≠ 0 by omega) ?_
    have k1 : A * lm (ltA W n U) (ascL U n).length * G = nuX W n q g v * lm (ltA W n U) (ascL U n).length := by
      rw [Int.mul_right_comm, ← f4]
    rw [k1, ← key, Int.mul_right_comm, ← f5]
  have hd : B ∣ A * deX W n U := ⟨_, key2⟩
  have hd2 := Int.natAbs_dvd_natAbs.mpr hd
  rw [Int.natAbs_mul] at hd2
  have hc2 : Nat.Coprime B.natAbs A.natAbs := by
    rw [Int.gcd_comm] at hcop
    exact hcop
  exact Int.natAbs_dvd_natAbs.mp (hc2.dvd_of_dvd_mul_left hd2)
end

