/-! ===== the law's checks of means come out true ===== -/
section
variable {W : Nat → Nat} {n : Nat}
theorem ri_rcm (hn : n ≤ 6) {t : Nat} (ht : t < n) (u : Nat) : (riR W n t n).testBit u = true ↔ (rcm W n t).testBit u = true := by
  have h1 : clo W n (riR W n t n) := by
    rw [riR_itf]
    exact riA_rnd.cl ht (by omega)
  have h2 : (riR W n t n).testBit t = true := by
    rw [riR_itf]
    exact riA_rnd.self n
  constructor
  · intro h
    rw [riR_itf] at h
    exact riA_rnd.least (rcm_clo ht hn) rcm_self n u h
  · exact rcm_least h1 h2
theorem ri_bit (hW : gdW W n) {t u : Nat} (ht : t < n) (hu : u < n) : (riR W n t n).testBit u = true ↔ (rcm W n u).testBit t = true := by
  rw [ri_rcm hW.1 ht u]
  exact ⟨rcm_sym hW ht hu, rcm_sym hW hu ht⟩
theorem mt_one {t u : Nat} (ht : t < n) : mtS W n (2 ^ t) u ↔ (rcm W n u).testBit t = true := by
  constructor
  · rintro ⟨k, -, h2, h3⟩
    rw [p2_bit.mp h3]
    exact h2
  · exact fun h => ⟨t, ht, h, p2_bit.mpr rfl⟩
theorem zS_zero : ∀ c, zS (fun _ => 0) 0 c = 0
  | 0 => rfl
  | c + 1 => by
    show zS (fun _ => 0) 0 c + 0 = 0
    rw [zS_zero c]
    rfl
theorem gn_0 {C : Nat → Nat} {c w : Nat} : zS (fun u => gnI W C 0 c w u) 0 n = (degN W w n : Nat) * (c : Nat) := by
  have e : zS (fun u => gnI W C 0 c w u) 0 n = zS (fun u => ((W (w * 6 + u) : Nat) : Int) * (c : Nat)) 0 n := rfl
  rw [e, ← zS_mul (fun u => ((W (w * 6 + u) : Nat) : Int)), zS_sN]
  rfl
theorem csS_z {C : Nat → Nat} {w : Nat} : ∀ n, csS W C w n = zS (fun u => ((W (w * 6 + u) : Nat) : Int) * (C (w * 6 + u) : Nat)) 0 n
  | 0 => rfl
  | n + 1 => by
    show csS W C w n + _ = zS _ 0 n + _
    rw [csS_z n, Nat.zero_add]
theorem gn_1 {C : Nat → Nat} {c w : Nat} : zS (fun u => gnI W C 1 c w u) 0 n = csG W C n w * (c : Nat) := by
  have e : zS (fun u => gnI W C 1 c w u) 0 n = zS (fun u => ((W (w * 6 + u) : Nat) : Int) * (C (w * 6 + u) : Nat) * (c : Nat)) 0 n := rfl
  rw [e, ← zS_mul (fun u => ((W (w * 6 + u) : Nat) : Int) * (C (w * 6 + u) : Nat))]
  show _ = csS W C w n * _
  rw [csS_z]
theorem stG_ok (hW : gdW W n) : okg n (stG W n) := fun k hk => ⟨Int.natCast_nonneg _, by have := stG_45 hW k hk; omega⟩
theorem csG_ok (hW : gdW W n) {C : Nat → Nat} (hC : ∀ k, k < 36 → C k ≤ 99) : okg n (csG W C n) := fun k hk => ⟨by
    show 0 ≤ csS W C k n
    rw [csS_z]
    exact (zS_ge n (fun j _ => Int.mul_nonneg (Int.natCast_nonneg _) (Int.natCast_nonneg _))).1, csG_99 hW hC k hk⟩
theorem atG_ok (hW : gdW W n) {j : Nat} (hj : j < n) : okg n (atG W j) := fun k hk => ⟨Int.natCast_nonneg _, atG_9 hW hj k hk⟩
theorem fp_01 : rdA 0 1 = 0 ∧ rdB 0 1 = 1 ∧ rdA 1 1 = 1 ∧ rdB 1 1 = 1 := by decide
/-- towards one vertex -/
theorem mu_all (hW : gdW W n) {g : Nat → Int} (hg : okg n g) {t u : Nat} (ht : t < n) (hu : u < n) (h : (rcm W n u).testBit t = true) :
    okM W n u t g ∧ muA W n u t g = (mfA W n (2 ^ t) g (fun _ => 0) u : Nat) ∧ muB W n u t g = (mfB W n (2 ^ t) g u : Nat) ∧ 1 ≤ mfB W n (2 ^ t) g u ∧ mfB W n (2 ^ t) g u ≤ 9223372036854775807 ∧ mfA W n (2 ^ t) g (fun _ => 0) u ≤ 9223372036854775807 ∧ Nat.gcd (mfA W n (2 ^ t) g (fun _ => 0) u) (mfB W n (2 ^ t) g u) = 1 := by
  by_cases e : u = t
  · subst e
    have hT : (2 ^ u).testBit u = true := p2_bit.mpr rfl
    have eA : mfA W n (2 ^ u) g (fun _ => 0) u = 0 := by unfold mfA; rw [if_pos hT]
    have eB : mfB W n (2 ^ u) g u = 1 := by unfold mfB; rw [if_pos hT]
    rw [eA, eB]
    refine ⟨fun z => absurd rfl z, ?_, ?_, by decide, by decide, by decide, by decide⟩
    · unfold muA
      rw [if_pos rfl]
      exact fp_01.1
    · unfold muB
      rw [if_pos rfl]
      exact fp_01.2.1
  · have hT : (2 ^ t).testBit u = false := by
      cases c : (2 ^ t).testBit u with
      | false => rfl
      | true => exact absurd (p2_bit.mp c).symm e
    obtain ⟨f1, f2, f3, f4, f5, f6, f7, -⟩ := mf_all (bd := fun _ => 0) hW hg hu hT ((mt_one ht).mpr h)
    refine ⟨fun _ => f1, ?_, ?_, f4, by omega, f6, f7⟩
    · unfold muA
      rw [if_neg e]
      exact f2
    · unfold muB
      rw [if_neg e]
      exact f3
end
section
variable {v : Ev} {h : Hp} {top y x : Nat} {S : LT} {Z : CS} {cc : Nat → Int}
/-- the law's own graph is the component's -/
def sGZ (S : LT) (Z : CS) (cc : Nat → Int) : Prop := (2 ≤ S.n ∧ S.n ≤ 5) ∧ Z.2.1.n = S.n ∧ Z.2.1.W = S.W ∧ tbl Z.2.1 9 cc = S.C ∧ Z.2.1.a = S.a ∧ gdW S.W S.n ∧ (∀ k, k < 36 → S.C k ≤ 99) ∧ (∀ u, u < S.n → S.D u = degN S.W u S.n) ∧ (∀ k, k < 6 → S.D k ≤ 1000) ∧ S.a < 64
theorem sGZ.ok9 (g : sGZ S Z cc) : okS9 S := ⟨by have := g.1.2; omega, g.2.2.2.2.2.1.2.2.2, g.2.2.2.2.2.2.1, g.2.2.2.2.2.2.2.2.1⟩
theorem l_hits0 {t : Nat} (L : isLw v h y S) (K : okX v h x Z) (z : okZ Z) (g : sGZ S Z cc) (hyt : y + 18 ≤ top) (hxt : x + 96 ≤ top) (hxy : y + 18 ≤ x ∨ x + 96 ≤ y) (ht : t < S.n) :
    Cal v mL_areHits 129 5 30 [.ref y, .ref x, .int (nI t), .int (nI 0)] h top (fun r h' top' => r = some (.int (nI 1)) ∧ okX v h' x Z ∧ top ≤ top' ∧ frT h h' top x) noX := by
  have ok9 := g.ok9
  obtain ⟨hn, eN, eW, eC, eA, hW, hC, hD, hD2, ha⟩ := g
  have hg := stG_ok hW
  have hth : ∀ u, u < S.n → ((riR S.W S.n t S.n).testBit u = true ↔ mtS S.W S.n (2 ^ t) u) := fun u hu => (ri_bit hW ht hu).trans (mt_one ht).symm
  refine c_hits0 (An := mfA S.W S.n (2 ^ t) (stG S.W S.n) (fun _ => 0)) (Bn := mfB S.W S.n (2 ^ t) (stG S.W S.n)) L K z hyt hxt hxy ok9 eN ht ?_ ?_ ?_ ?_ ?_ ?_
  · intro u hu h1
    rw [eW, eN, rch_rcm hu hW.1]
    exact (ri_bit hW ht hu).mp h1
  · intro u hu h1
    rw [eW, eN]
    exact (mu_all hW hg ht hu ((ri_bit hW ht hu).mp h1)).1
  · intro u hu h1
    rw [eW, eN]
    exact (mu_all hW hg ht hu ((ri_bit hW ht hu).mp h1)).2
  · unfold mfA
    rw [if_pos (p2_bit.mpr rfl)]
  · intro u hu
    exact Nat.le_trans (lcC_le hW hg (fun u hu h => (hth u hu).mp h) hu).2 (by decide)
  · intro w hw h1 h2
    rw [hD w hw]
    refine step_fin hW hg hth hw h1 h2 ?_
    rw [gn_0]
    have e : zS (fun u => ((S.W (w * 6 + u) : Nat) : Int) * (if (2 ^ t).testBit u = true then (((fun _ => 0 : Nat → Nat) u : Nat) : Int) * (lcC (mfB S.W S.n (2 ^ t) (stG S.W S.n)) (fun u => (riR S.W S.n t S.n).testBit u) S.n : Nat) else 0)) 0 S.n = zS (fun _ => 0) 0 S.n := by
      refine zS_cong _ fun u _ _ => ?_
      split <;> simp
    rw [e, zS_zero, Int.zero_add]
    rfl
theorem l_hits1 {t : Nat} (L : isLw v h y S) (K : okX v h x Z) (z : okZ Z) (g : sGZ S Z cc) (hl : okL Z.2.1) (hcd : okC v h x Z.2.1 9 cc) (hF : Z.2.1.F < top) (hyt : y + 18 ≤ top) (hxt : x + 96 ≤ top) (hxy : y + 18 ≤ x ∨ x + 96 ≤ y) (ht : t < S.n) :
    Cal v mL_areHits 129 5 30 [.ref y, .ref x, .int (nI t), .int (nI 1)] h top (fun r h' top' => r = some (.int (nI 1)) ∧ okX v h' x Z ∧ top ≤ top' ∧ frT h h' top x) noX := by
  have ok9 := g.ok9
  obtain ⟨hn, eN, eW, eC, eA, hW, hC, hD, hD2, ha⟩ := g
  have hg := csG_ok hW hC
  have hth : ∀ u, u < S.n → ((riR S.W S.n t S.n).testBit u = true ↔ mtS S.W S.n (2 ^ t) u) := fun u hu => (ri_bit hW ht hu).trans (mt_one ht).symm
  refine c_hits1 (An := mfA S.W S.n (2 ^ t) (csG S.W S.C S.n) (fun _ => 0)) (Bn := mfB S.W S.n (2 ^ t) (csG S.W S.C S.n)) L K z hyt hxt hxy ok9 eN ht hl hcd hF ?_ ?_ ?_ ?_ ?_ ?_
  · intro u hu h1
    rw [eW, eN, rch_rcm hu hW.1]
    exact (ri_bit hW ht hu).mp h1
  · intro u hu h1
    rw [eC, eW, eN]
    exact (mu_all hW hg ht hu ((ri_bit hW ht hu).mp h1)).1
  · intro u hu h1
    rw [eC, eW, eN]
    exact (mu_all hW hg ht hu ((ri_bit hW ht hu).mp h1)).2
  · unfold mfA
    rw [if_pos (p2_bit.mpr rfl)]
  · intro u hu
    exact Nat.le_trans (lcC_le hW hg (fun u hu h => (hth u hu).mp h) hu).2 (by decide)
  · intro w hw h1 h2
    rw [hD w hw]
    refine step_fin hW hg hth hw h1 h2 ?_
    rw [gn_1]
    have e : zS (fun u => ((S.W (w * 6 + u) : Nat) : Int) * (if (2 ^ t).testBit u = true then (((fun _ => 0 : Nat → Nat) u : Nat) : Int) * (lcC (mfB S.W S.n (2 ^ t) (csG S.W S.C S.n)) (fun u => (riR S.W S.n t S.n).testBit u) S.n : Nat) else 0)) 0 S.n = zS (fun _ => 0) 0 S.n := by
      refine zS_cong _ fun u _ _ => ?_
      split <;> simp
    rw [e, zS_zero, Int.zero_add]
theorem l_absL {t : Nat} (L : isLw v h y S) (K : okX v h x Z) (z : okZ Z) (g : sGZ S Z cc) (hyt : y + 18 ≤ top) (hxt : x + 96 ≤ top) (hxy : y + 18 ≤ x ∨ x + 96 ≤ y) (ht : t < S.n) (hat : S.a.testBit t = true) :
    Cal v mL_areAbsorptions 129 11 66 [.ref y, .ref x, .int (nI t)] h top (fun r h' top' => r = some (.int (nI 1)) ∧ okX v h' x Z ∧ top ≤ top' ∧ frT h h' top x) noX := by
  have ok9 := g.ok9
  obtain ⟨hn, eN, eW, eC, eA, hW, hC, hD, hD2, ha⟩ := g
  have hg := atG_ok hW ht
  have hth : ∀ u, u < S.n → (orA (riR S.W S.n u S.n) S.a S.n = true ↔ mtS S.W S.n S.a u) := fun u hu => by
    rw [orA_t]
    unfold mtS
    constructor
    · rintro ⟨k, h1, h2, h3⟩
      exact ⟨k, h1, (ri_rcm hW.1 hu k).mp h2, h3⟩
    · rintro ⟨k, h1, h2, h3⟩
      exact ⟨k, h1, (ri_rcm hW.1 hu k).mpr h2, h3⟩
  refine c_absL (An := mfA S.W S.n S.a (atG S.W t) (fun u => if u = t then 1 else 0)) (Bn := mfB S.W S.n S.a (atG S.W t)) (th := fun u => orA (riR S.W S.n u S.n) S.a S.n) L K z hyt hxt hxy ok9 ha eN ht (by rw [eA]; exact hat) (fun u _ => rfl) ?_ ?_ ?_ ?_ ?_ ?_
  · intro u hu h1
    rw [eW, eN, eA, rch_rcm hu hW.1]
    exact (met_iff hW hu).mpr ((hth u hu).mp h1)
  · intro u hu h1 h2
    rw [eW, eN, eA]
    rw [eA] at h2
    exact (mf_all (bd := fun _ => 0) hW hg hu h2 ((hth u hu).mp h1)).1
  · intro u hu h1
    rw [eW, eN, eA]
    by_cases c : S.a.testBit u = true
    · have e1 : mfA S.W S.n S.a (atG S.W t) (fun u => if u = t then 1 else 0) u = if u = t then 1 else 0 := by unfold mfA; rw [if_pos c]
      have e2 : mfB S.W S.n S.a (atG S.W t) u = 1 := by unfold mfB; rw [if_pos c]
      rw [e1, e2]
      refine ⟨?_, ?_, by decide, by decide⟩
      · unfold aqA
        rw [if_pos c]
        by_cases d : u = t
        · rw [if_pos d, if_pos d]; exact fp_01.2.2.1
        · rw [if_neg d, if_neg d]; exact fp_01.1
      · unfold aqB
        rw [if_pos c]
        by_cases d : u = t
        · rw [if_pos d]; exact fp_01.2.2.2
        · rw [if_neg d]; exact fp_01.2.1
    · obtain ⟨-, f2, f3, f4, f5, -⟩ := mf_all (bd := fun u => if u = t then 1 else 0) hW hg hu (by simpa using c) ((hth u hu).mp h1)
      refine ⟨?_, ?_, f4, by omega⟩
      · unfold aqA
        rw [if_neg c]
        exact f2
      · unfold aqB
        rw [if_neg c]
        exact f3
  · intro u hu h1 h2
    unfold mfA
    rw [if_pos h2]
  · intro u hu
    exact Nat.le_trans (lcC_le hW hg (fun u hu h => (hth u hu).mp h) hu).2 (by decide)
  · intro w hw h1 h2
    rw [hD w hw]
    refine step_fin hW hg hth hw h1 h2 ?_
    generalize lcC (mfB S.W S.n S.a (atG S.W t)) (fun u => orA (riR S.W S.n u S.n) S.a S.n) S.n = c
    have e1 : zS (fun u => gnI S.W S.C 2 c w u) 0 S.n = 0 := zS_zero S.n
    have e2 : zS (fun u => ((S.W (w * 6 + u) : Nat) : Int) * (if S.a.testBit u = true then (((if u = t then 1 else 0 : Nat)) : Int) * (c : Nat) else 0)) 0 S.n = zS (fun u => if u = t then ((S.W (w * 6 + t) : Nat) : Int) * (c : Nat) else 0) 0 S.n := by
      refine zS_cong _ fun u _ _ => ?_
      by_cases d : u = t
      · rw [d, hat, if_pos rfl, if_pos rfl, if_pos rfl]
        simp
      · rw [if_neg d, if_neg d]
        split <;> simp
    rw [e1, e2, zS_one, if_pos ht, Int.add_zero]
    rfl
end

