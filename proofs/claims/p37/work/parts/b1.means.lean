/-! ===== means towards a set, as the law checks them ===== -/
section
variable {W : Nat → Nat} {n T : Nat} {g : Nat → Int} {bd : Nat → Nat}
def mtS (W : Nat → Nat) (n T v : Nat) : Prop := ∃ t, t < n ∧ (rcm W n v).testBit t = true ∧ T.testBit t = true
def qV (W : Nat → Nat) (n T v : Nat) : Nat → Bool := unP (rcm W n v) T
theorem rcm_eq (hW : gdW W n) {u v : Nat} (hu : u < n) (hv : v < n) (h : (rcm W n v).testBit u = true) : rcm W n u = rcm W n v := by
  have h2 := rcm_sym hW hv hu h
  refine Nat.eq_of_testBit_eq fun k => ?_
  apply Bool.eq_iff_iff.mpr
  exact ⟨fun z => rcm_least (rcm_clo hv hW.1) h z, fun z => rcm_least (rcm_clo hu hW.1) h2 z⟩
theorem qV_t {v u : Nat} : qV W n T v u = true ↔ (rcm W n v).testBit u = true ∧ T.testBit u = false := by
  unfold qV unP
  rw [Bool.and_eq_true]
  cases T.testBit u <;> simp
theorem qV_eq (hW : gdW W n) {u v : Nat} (hu : u < n) (hv : v < n) (h : (rcm W n v).testBit u = true) : qV W n T u = qV W n T v := by
  unfold qV
  rw [rcm_eq hW hu hv h]
theorem qV_lk (hW : gdW W n) {v : Nat} (hv : v < n) (h : mtS W n T v) : lkE W n (qV W n T v) := by
  intro u hu hq
  obtain ⟨t, h1, h2, h3⟩ := h
  refine ⟨t, h1, ?_, ?_⟩
  · rw [rcm_eq hW hu hv (qV_t.mp hq).1]
    exact h2
  · cases c : qV W n T v t with
    | false => rfl
    | true => rw [(qV_t.mp c).2] at h3; cases h3
/-- the large set: all that meet T, T left out -/
def uU (W : Nat → Nat) (n T : Nat) : Nat → Bool := fun u => !T.testBit u && orA (rcm W n u) T n
theorem orA_t {Q ab : Nat} : ∀ a, orA Q ab a = true ↔ ∃ t, t < a ∧ Q.testBit t = true ∧ ab.testBit t = true
  | 0 => ⟨fun z => (by cases z), fun ⟨t, h, _⟩ => by omega⟩
  | a + 1 => by
    rw [orA, Bool.or_eq_true, Bool.and_eq_true, orA_t a]
    constructor
    · rintro (⟨t, h1, h2⟩ | h)
      · exact ⟨t, by omega, h2⟩
      · exact ⟨a, by omega, h⟩
    · rintro ⟨t, h1, h2⟩
      by_cases c : t = a
      · rw [← c]; exact Or.inr h2
      · exact Or.inl ⟨t, by omega, h2⟩
theorem uU_t {u : Nat} : uU W n T u = true ↔ T.testBit u = false ∧ mtS W n T u := by
  unfold uU mtS
  rw [Bool.and_eq_true, orA_t]
  cases T.testBit u <;> simp
theorem uU_lk : lkE W n (uU W n T) := by
  intro u _ hq
  obtain ⟨-, t, h1, h2, h3⟩ := uU_t.mp hq
  refine ⟨t, h1, h2, ?_⟩
  cases c : uU W n T t with
  | false => rfl
  | true => rw [(uU_t.mp c).1] at h3; cases h3
/-- no edge leads out of what is reached -/
theorem out_zero (hW : gdW W n) {a b v : Nat} (ha : a < n) (hb : b < n) (hv : v < n) (h1 : (rcm W n v).testBit a = false) (h2 : (rcm W n v).testBit b = true) : W (a * 6 + b) = 0 := by
  rcases Nat.eq_zero_or_pos (W (a * 6 + b)) with z | z
  · exact z
  · rw [hW.2.2.1 a b ha hb] at z
    rw [rcm_clo hv hW.1 b a hb ha h2 z] at h1
    cases h1
/-- numerator and denominator -/
def mfX (W : Nat → Nat) (n T : Nat) (g : Nat → Int) (u : Nat) : Int := nuX W n (qV W n T u) g u
def mfD (W : Nat → Nat) (n T : Nat) (u : Nat) : Int := deX W n (qV W n T u)
def mfA (W : Nat → Nat) (n T : Nat) (g : Nat → Int) (bd : Nat → Nat) (u : Nat) : Nat := if T.testBit u = true then bd u else (rdA (mfX W n T g u) (mfD W n T u)).toNat
def mfB (W : Nat → Nat) (n T : Nat) (g : Nat → Int) (u : Nat) : Nat := if T.testBit u = true then 1 else (rdB (mfX W n T g u) (mfD W n T u)).toNat
def okg (n : Nat) (g : Nat → Int) : Prop := ∀ k, k < n → 0 ≤ g k ∧ (g k).natAbs ≤ 4455
theorem p45 : ∀ m, m ≤ 5 → (45 : Int) ^ m ≤ 184528125 := by decide
theorem mf_all (hW : gdW W n) (hg : okg n g) {v : Nat} (hv : v < n) (hT : T.testBit v = false) (h : mtS W n T v) :
    okA (aug W n g (unkL (dif (rch W n v) T) v n)) (unkL (dif (rch W n v) T) v n).length ∧
    slA (aug W n g (unkL (dif (rch W n v) T) v n)) (unkL (dif (rch W n v) T) v n).length = (mfA W n T g bd v : Nat) ∧
    slB (aug W n g (unkL (dif (rch W n v) T) v n)) (unkL (dif (rch W n v) T) v n).length = (mfB W n T g v : Nat) ∧
    1 ≤ mfB W n T g v ∧ mfB W n T g v ≤ 184528125 ∧ mfA W n T g bd v ≤ 9223372036854775807 ∧ Nat.gcd (mfA W n T g bd v) (mfB W n T g v) = 1 ∧
    (mfA W n T g bd v : Int) * mfD W n T v = mfX W n T g v * (mfB W n T g v : Nat) ∧ 0 < mfD W n T v ∧ ((mfB W n T g v : Nat) : Int) ∣ deX W n (uU W n T) := by
  have hl := qV_lk hW hv h
  have hm := hl.five hW.1
  have hq : qV W n T v v = true := qV_t.mpr ⟨rcm_self, hT⟩
  have hk : lkq W n v (qV W n T v) := lkq_of h
  have hg2 : ∀ k, k < n → (g k).natAbs ≤ 4455 := fun k hk => (hg k hk).2
  have hn6 := hW.1
  have hS : ∀ u, u < n → (dif (rch W n v) T).testBit u = qV W n T v u := fun u _ => by
    rw [rch_rcm hv hW.1]
    exact unP_bit (rcm_lt (by omega) hW.1) u
  obtain ⟨s1, s2, -⟩ := mean_sl (g := g) hW.w3 hv hS hq hk
  have ok := mean_okA hW hg2 hv hS hq hk
  rw [de_eq hm] at s1 s2
  have s1' : slA (aug W n g (unkL (dif (rch W n v) T) v n)) (unkL (dif (rch W n v) T) v n).length = rdA (mfX W n T g v) (mfD W n T v) := s1
  have s2' : slB (aug W n g (unkL (dif (rch W n v) T) v n)) (unkL (dif (rch W n v) T) v n).length = rdB (mfX W n T g v) (mfD W n T v) := s2
  obtain ⟨d1, d2⟩ := de_pos hW hl
  have d1' : 0 < mfD W n T v := d1
  have d2' : mfD W n T v ≤ 184528125 := Int.le_trans d2 (p45 _ hm)
  have x0 : 0 ≤ mfX W n T g v := nu_ge hW hl (fun u hu => (hg u hu).1) v hv hq
  have r1 := mean_ref hW hg2 hv hq hm (Or.inl rfl)
  have r2 : (mfX W n T g v).natAbs ≤ Gb (ascL (qV W n T v) n).length := r1.2.2
  have b := Gb_inF _ hm
  obtain ⟨f1, f2, f3, f4, f5, f6⟩ := rd_fact (n := mfX W n T g v) d1'
  have a0 : 0 ≤ rdA (mfX W n T g v) (mfD W n T v) := by
    rcases Int.lt_or_le (rdA (mfX W n T g v) (mfD W n T v)) 0 with z | z
    · have := Int.mul_neg_of_neg_of_pos z f6
      omega
    · exact z
  have eA : ((mfA W n T g bd v : Nat) : Int) = rdA (mfX W n T g v) (mfD W n T v) := by
    unfold mfA
    rw [hT, if_neg (by decide)]
    omega
  have eB : ((mfB W n T g v : Nat) : Int) = rdB (mfX W n T g v) (mfD W n T v) := by
    unfold mfB
    rw [hT, if_neg (by decide)]
    omega
  have hdv : rdB (mfX W n T g v) (mfD W n T v) ∣ deX W n (uU W n T) := de_dvd hW hl uU_lk (fun u hu hqu => uU_t.mpr ⟨(qV_t.mp hqu).2, by
      obtain ⟨t, t1, t2, t3⟩ := h
      exact ⟨t, t1, by rw [rcm_eq hW hu hv (qV_t.mp hqu).1]; exact t2, t3⟩⟩) (fun a b ha hb hUa hqa hqb => by
      have c1 := (uU_t.mp hUa).1
      have c2 : (rcm W n v).testBit a = false := by
        cases c : (rcm W n v).testBit a with
        | false => rfl
        | true => rw [qV_t.mpr ⟨c, c1⟩] at hqa; cases hqa
      exact out_zero hW ha hb hv c2 (qV_t.mp hqb).1) hv hq
  refine ⟨ok, s1'.trans eA.symm, s2'.trans eB.symm, by omega, by omega, by omega, ?_, ?_, d1', by rw [eB]; exact hdv⟩
  · have e1 : Int.gcd (mfX W n T g v) (mfD W n T v) = Int.gcd ((mfA W n T g bd v : Nat) * (Int.gcd (mfX W n T g v) (mfD W n T v) : Nat)) ((mfB W n T g v : Nat) * (Int.gcd (mfX W n T g v) (mfD W n T v) : Nat)) := by
      rw [eA, eB, ← f4, ← f5]
    rw [Int.gcd_mul_right] at e1
    have e2 : Int.gcd ((mfA W n T g bd v : Nat) : Int) ((mfB W n T g v : Nat) : Int) = Nat.gcd (mfA W n T g bd v) (mfB W n T g v) := rfl
    rw [e2] at e1
    have e3 : (((Int.gcd (mfX W n T g v) (mfD W n T v) : Nat) : Int)).natAbs = Int.gcd (mfX W n T g v) (mfD W n T v) := rfl
    rw [e3] at e1
    exact Nat.eq_of_mul_eq_mul_right (show 0 < Int.gcd (mfX W n T g v) (mfD W n T v) by omega) (e1.symm.trans (Nat.one_mul _).symm)
  · rw [eA, eB]
    generalize rdA (mfX W n T g v) (mfD W n T v) = a at f4
    generalize rdB (mfX W n T g v) (mfD W n T v) = b at f5
    generalize ((Int.gcd (mfX W n T g v) (mfD W n T v) : Nat) : Int) = G at f4 f5
    rw [f4, f5, ← Int.mul_assoc, Int.mul_right_comm]
/-- the common denominator -/
theorem lcC_dvd {B : Nat → Nat} {th : Nat → Bool} {K : Nat} : ∀ u, (∀ x, x < u → th x = true → B x ∣ K) → lcC B th u ∣ K
  | 0, _ => Nat.one_dvd K
  | u + 1, h => by
    have ih := lcC_dvd u (fun x hx => h x (by omega))
    rw [lcC]
    by_cases c : th u = true
    · rw [if_pos c]
      exact Nat.lcm_dvd ih (h u (by omega) c)
    · rw [if_neg c]
      exact ih
theorem dvd_lcC {B : Nat → Nat} {th : Nat → Bool} {x : Nat} (hx : th x = true) : ∀ u, x < u → B x ∣ lcC B th u
  | 0, h => by omega
  | u + 1, h => by
    rw [lcC]
    by_cases c : x = u
    · rw [← c, if_pos hx]
      exact Nat.dvd_lcm_right ..
    · have ih := dvd_lcC (B := B) hx u (by omega)
      by_cases d : th u = true
      · rw [if_pos d]
        exact Nat.dvd_trans ih (Nat.dvd_lcm_left ..)
      · rw [if_neg d]
        exact ih
theorem mfB_dvd (hW : gdW W n) (hg : okg n g) {v : Nat} (hv : v < n) (h : mtS W n T v) : mfB W n T g v ∣ (deX W n (uU W n T)).toNat := by
  by_cases hT : T.testBit v = true
  · unfold mfB
    rw [if_pos hT]
    exact Nat.one_dvd _
  · have h2 := (mf_all (bd := fun _ => 0) hW hg hv (by simpa using hT) h).2.2.2.2.2.2.2.2.2
    have d0 := (de_pos hW (uU_lk (W := W) (n := n) (T := T))).1
    have h3 := Int.natAbs_dvd_natAbs.mpr h2
    rw [show (((mfB W n T g v : Nat) : Int)).natAbs = mfB W n T g v from rfl] at h3
    rw [show (deX W n (uU W n T)).toNat = (deX W n (uU W n T)).natAbs by omega]
    exact h3
theorem lcC_le (hW : gdW W n) (hg : okg n g) {th : Nat → Bool} (hth : ∀ u, u < n → th u = true → mtS W n T u) {u : Nat} (hu : u ≤ n) : 1 ≤ lcC (mfB W n T g) th u ∧ lcC (mfB W n T g) th u ≤ 184528125 := by
  obtain ⟨d0, d1⟩ := de_pos hW (uU_lk (W := W) (n := n) (T := T))
  have d2 := Int.le_trans d1 (p45 _ ((uU_lk (W := W) (n := n) (T := T)).five hW.1))
  have h := lcC_dvd (B := mfB W n T g) (th := th) u (fun x hx ht => mfB_dvd hW hg (by omega) (hth x (by omega) ht))
  have h2 := Nat.le_of_dvd (by omega) h
  have h3 := Nat.pos_of_dvd_of_pos h (by omega)
  omega
theorem smI_z {C : Nat → Nat} {kd c w : Nat} {s : Nat → Int} : ∀ u, smI W C kd c s w u = zS (fun u => ((W (w * 6 + u) : Nat) : Int) * s u + gnI W C kd c w u) 0 u
  | 0 => rfl
  | u + 1 => by
    show smI W C kd c s w u + _ = zS _ 0 u + _
    rw [smI_z u, Nat.zero_add]
/-- the check at one vertex -/
theorem step_fin (hW : gdW W n) (hg : okg n g) {th : Nat → Bool} (hth : ∀ u, u < n → (th u = true ↔ mtS W n T u)) {C : Nat → Nat} {kd w : Nat} (hw : w < n) (hthw : th w = true) (hTw : T.testBit w = false)
    (hbd : zS (fun u => ((W (w * 6 + u) : Nat) : Int) * (if T.testBit u = true then (bd u : Int) * (lcC (mfB W n T g) th n : Nat) else 0)) 0 n + zS (fun u => gnI W C kd (lcC (mfB W n T g) th n) w u) 0 n = g w * (lcC (mfB W n T g) th n : Nat)) :
    smI W C kd (lcC (mfB W n T g) th n) (sV (fun u => ((mfA W n T g bd u : Nat) : Int)) (mfB W n T g) th (lcC (mfB W n T g) th n)) w n = (degN W w n : Nat) * sV (fun u => ((mfA W n T g bd u : Nat) : Int)) (mfB W n T g) th (lcC (mfB W n T g) th n) w := by
  have hmw := (hth w hw).mp hthw
  have hl := qV_lk hW hw hmw
  have hm := hl.five hW.1
  have hqw : qV W n T w w = true := qV_t.mpr ⟨rcm_self, hTw⟩
  have e1 := eq_one (W := W) (n := n) (q := qV W n T w) (g := g) hW.2.1 hm hw hqw
  have hD := (de_pos hW hl).1
  have dv : ∀ u, u < n → th u = true → mfB W n T g u ∣ lcC (mfB W n T g) th n := fun u hu ht => dvd_lcC ht n hu
  generalize hc : lcC (mfB W n T g) th n = c at hbd dv ⊢
  generalize hs : sV (fun u => ((mfA W n T g bd u : Nat) : Int)) (mfB W n T g) th c = s
  -- inside
  have hin : ∀ u, u < n → qV W n T w u = true → deX W n (qV W n T w) * s u = nuX W n (qV W n T w) g u * (c : Nat) := by
    intro u hu hq
    obtain ⟨q1, q2⟩ := qV_t.mp hq
    have hmu : mtS W n T u := by
      obtain ⟨t, t1, t2, t3⟩ := hmw
      exact ⟨t, t1, by rw [rcm_eq hW hu hw q1]; exact t2, t3⟩
    have ht : th u = true := (hth u hu).mpr hmu
    have f := (mf_all (bd := bd) hW hg hu q2 hmu).2.2.2.2.2.2.2.1
    unfold mfD mfX at f
    rw [qV_eq hW hu hw q1] at f
    rw [← hs]
    unfold sV
    rw [if_pos ht]
    obtain ⟨k, hk⟩ := dv u hu ht
    have hB := (mf_all (bd := bd) hW hg hu q2 hmu).2.2.2.1
    have e : c / mfB W n T g u = k := by
      rw [hk]
      exact Nat.mul_div_cancel_left k hB
    dsimp only
    rw [e, hk, Int.natCast_mul, ← Int.mul_assoc, ← Int.mul_assoc, ← f, Int.mul_comm (deX W n (qV W n T w))]
  -- on the border and outside
  have hout : ∀ u, u < n → qV W n T w u = false → ((W (w * 6 + u) : Nat) : Int) * s u = ((W (w * 6 + u) : Nat) : Int) * (if T.testBit u = true then (bd u : Int) * (c : Nat) else 0) := by
    intro u hu hq
    cases r : (rcm W n w).testBit u with
    | false =>
      have := out_zero hW hu hw hw r rcm_self
      rw [hW.2.2.1 u w hu hw] at this
      rw [this]
      simp
    | true =>
      have hTu : T.testBit u = true := by
        cases d : T.testBit u with
        | true => rfl
        | false => rw [qV_t.mpr ⟨r, d⟩] at hq; cases hq
      have ht : th u = true := (hth u hu).mpr ⟨u, hu, rcm_self, hTu⟩
      rw [← hs]
      unfold sV
      rw [if_pos ht, if_pos hTu]
      have eB : mfB W n T g u = 1 := by unfold mfB; rw [if_pos hTu]
      have eA : mfA W n T g bd u = bd u := by unfold mfA; rw [if_pos hTu]
      dsimp only
      rw [eB, eA, Nat.div_one]
  rw [smI_z, zS_add (fun u => ((W (w * 6 + u) : Nat) : Int) * s u) (fun u => gnI W C kd c w u)]
  have hsplit : zS (fun u => ((W (w * 6 + u) : Nat) : Int) * s u) 0 n = zS (fun u => (if qV W n T w u = true then ((W (w * 6 + u) : Nat) : Int) * s u else 0) + ((W (w * 6 + u) : Nat) : Int) * (if T.testBit u = true then (bd u : Int) * (c : Nat) else 0)) 0 n := by
    refine zS_cong n fun u _ hu => ?_
    cases d : qV W n T w u with
    | true =>
      rw [if_pos rfl, (qV_t.mp d).2, if_neg (by decide), Int.mul_zero, Int.add_zero]
    | false =>
      rw [if_neg (by decide), Int.zero_add]
      exact hout u (by omega) d
  rw [hsplit, zS_add (fun u => if qV W n T w u = true then ((W (w * 6 + u) : Nat) : Int) * s u else 0) (fun u => ((W (w * 6 + u) : Nat) : Int) * (if T.testBit u = true then (bd u : Int) * (c : Nat) else 0)), Int.add_assoc, hbd]
  refine Int.eq_of_mul_eq_mul_right (show deX W n (qV W n T w) ≠ 0 by omega) ?_
  have k1 : zS (fun u => if qV W n T w u = true then ((W (w * 6 + u) : Nat) : Int) * s u else 0) 0 n * deX W n (qV W n T w) = zS (fun u => if qV W n T w u = true then ((W (w * 6 + u) : Nat) : Int) * nuX W n (qV W n T w) g u else 0) 0 n * (c : Nat) := by
    rw [zS_mul, zS_mul]
    refine zS_cong n fun u _ hu => ?_
    cases d : qV W n T w u with
    | true =>
      rw [if_pos rfl, if_pos rfl, Int.mul_assoc, Int.mul_comm (s u), hin u (by omega) d, Int.mul_assoc]
    | false =>
      rw [if_neg (by decide), if_neg (by decide), Int.zero_mul, Int.zero_mul]
  rw [Int.add_mul, k1, Int.mul_right_comm (g w), ← e1, Int.sub_mul, Int.mul_assoc ((degN W w n : Nat) : Int), ← hin w hw hqw, Int.mul_assoc ((degN W w n : Nat) : Int), Int.mul_comm (s w)]
  omega
end

