/-! ===== floats: the chances after some steps sum to nearly one ===== -/
def fz (x : UInt32) : Nat := Jvm.FP.Core.zmag Jvm.FP.Core.b32 (Jvm.FP.Core.val32 x)
def fnz (x : UInt32) : Prop := ∃ c q, Jvm.FP.Core.val32 x = .fin false c q ∧ Jvm.FP.Core.b32.qmin ≤ q
theorem qm32 : Jvm.FP.Core.b32.qmin = -149 := by decide
theorem pw_split : (2 : Nat) ^ 277 = 2 ^ 128 * 2 ^ 149 := by decide +kernel
theorem pw_300 : (2 : Nat) ^ 300 = 2 ^ 23 * 2 ^ 277 := by decide +kernel
theorem un_move (c : Nat) {q : Int} (h : -149 ≤ q) : Jvm.FP.Core.inUnits c q (-298) = Jvm.FP.Core.inUnits c q (-149) * 2 ^ 149 := Jvm.FP.Core.inUnits_move c (by omega) h
theorem rr_err {A : Nat} {e : Int} (he : -298 ≤ e) (hv : Jvm.FP.Core.inUnits A e (-298) ≤ 2 ^ 300) : ∃ c q, Jvm.FP.Core.roundRatio Jvm.FP.Core.b32 false A 1 e = .fin false c q ∧ Jvm.FP.Core.b32.qmin ≤ q ∧ Jvm.FP.Core.inUnits c q (-149) * 2 ^ 149 ≤ Jvm.FP.Core.inUnits A e (-298) + 2 ^ 277 ∧ Jvm.FP.Core.inUnits A e (-298) ≤ Jvm.FP.Core.inUnits c q (-149) * 2 ^ 149 + 2 ^ 277 := by
  rcases fl_round t32 q32 A 1 e with h | ⟨c, q, h, h1, h2, h3⟩
  · have k := (Jvm.FP.Core.roundRatio_inf (f := Jvm.FP.Core.b32) Jvm.FP.Core.good_b32 (s := false) (A := A) (B := 1) (e := e) (e0 := -298) (by decide) (by decide) he).mp h
    have big : (2 : Nat) ^ 300 < (2 ^ (Jvm.FP.Core.b32.p + 1) - 1) * 2 ^ (Jvm.FP.Core.b32.qmax - 1 - (-298)).toNat * 1 := by decide +kernel
    exact absurd (Nat.le_trans k hv) (Nat.not_le.mpr big)
  · refine ⟨c, q, h, h2, ?_⟩
    have hq : -149 ≤ q := by rw [qm32] at h2; exact h2
    have d := Jvm.FP.Core.roundRatio_nearest (f := Jvm.FP.Core.b32) Jvm.FP.Core.good_b32 (e0 := -298) (c' := Jvm.FP.Core.inUnits A e (-298) / 2 ^ 277) (q' := -21) (by decide) h (by
      have : Jvm.FP.Core.inUnits A e (-298) / 2 ^ 277 ≤ 2 ^ 23 := by
        rw [pw_300] at hv
        exact Nat.div_le_of_le_mul (by rw [Nat.mul_comm]; exact hv)
      exact Nat.lt_of_le_of_lt this (by decide)) (by decide) (by decide) he
    unfold Jvm.FP.Core.distance at d
    rw [un_move c hq] at d
    have e1 : ∀ k : Nat, Jvm.FP.Core.inUnits k (-21) (-298) = k * 2 ^ 277 := fun k => rfl
    rw [e1] at d
    generalize hV : Jvm.FP.Core.inUnits A e (-298) = V at d hv ⊢
    generalize hR : Jvm.FP.Core.inUnits c q (-149) * 2 ^ 149 = R at d ⊢
    have hdm := Nat.div_add_mod V (2 ^ 277)
    have hml := Nat.mod_lt V (show 0 < 2 ^ 277 by exact Nat.two_pow_pos 277)
    rw [Nat.mul_comm] at hdm
    generalize V / 2 ^ 277 * 2 ^ 277 = C at d hdm
    generalize V % 2 ^ 277 = m at hdm hml
    generalize (2 : Nat) ^ 277 = E at hml ⊢
    simp only [Int.natCast_one, Int.mul_one] at d
    omega
theorem fz_fin {x : UInt32} {c : Nat} {q : Int} (h : Jvm.FP.Core.val32 x = .fin false c q) : fz x = Jvm.FP.Core.inUnits c q (-149) := by
  unfold fz
  rw [h]
  rfl
theorem un_add (a b : Nat) (q e : Int) : Jvm.FP.Core.inUnits (a + b) q e = Jvm.FP.Core.inUnits a q e + Jvm.FP.Core.inUnits b q e := by
  unfold Jvm.FP.Core.inUnits
  rw [Nat.add_mul]
theorem un_un (c : Nat) {q r e : Int} (h1 : e ≤ r) (h2 : r ≤ q) : Jvm.FP.Core.inUnits (Jvm.FP.Core.inUnits c q r) r e = Jvm.FP.Core.inUnits c q e := (Jvm.FP.Core.inUnits_move c h1 h2).symm
theorem le_c149 {R V : Nat} (h : R * 2 ^ 149 ≤ V * 2 ^ 149 + 2 ^ 277) : R ≤ V + 2 ^ 128 := by
  rw [pw_split, ← Nat.add_mul] at h
  exact Nat.le_of_mul_le_mul_right h (Nat.two_pow_pos 149)
theorem fz_add {x y : UInt32} (hx : fnz x) (hy : fnz y) (hb : fz x + fz y ≤ 2 ^ 151) : fnz (FP.fadd x y) ∧ fz (FP.fadd x y) ≤ fz x + fz y + 2 ^ 128 ∧ fz x + fz y ≤ fz (FP.fadd x y) + 2 ^ 128 := by
  obtain ⟨c, q, h1, hq⟩ := hx
  obtain ⟨d, r, h2, hr⟩ := hy
  have k := Jvm.FP.Core.val32_fadd x y
  rw [h1, h2] at k
  have e1 : Jvm.FP.Core.sumUnits false c q false d r (min q r) = ((Jvm.FP.Core.inUnits c q (min q r) + Jvm.FP.Core.inUnits d r (min q r) : Nat) : Int) := by
    unfold Jvm.FP.Core.sumUnits Jvm.FP.Core.signed
    simp
  have hs : Jvm.FP.Core.sumSign false false (Jvm.FP.Core.sumUnits false c q false d r (min q r)) = false := by
    unfold Jvm.FP.Core.sumSign
    rw [e1]
    split
    · rfl
    · exact decide_eq_false (by omega)
  have e2 : Jvm.FP.Core.exactSum (.fin false c q) (.fin false d r) = .fin false (Jvm.FP.Core.inUnits c q (min q r) + Jvm.FP.Core.inUnits d r (min q r)) (min q r) := by
    show Jvm.FP.Core.Datum.fin (Jvm.FP.Core.sumSign false false (Jvm.FP.Core.sumUnits false c q false d r (min q r))) (Jvm.FP.Core.sumUnits false c q false d r (min q r)).natAbs _ = _
    rw [hs, e1]
    rfl
  rw [e2] at k
  have k2 : Jvm.FP.Core.val32 (FP.fadd x y) = Jvm.FP.Core.roundRatio Jvm.FP.Core.b32 false (Jvm.FP.Core.inUnits c q (min q r) + Jvm.FP.Core.inUnits d r (min q r)) 1 (min q r) := k
  rw [qm32] at hq hr
  have hm : -149 ≤ min q r := by omega
  have ev : Jvm.FP.Core.inUnits (Jvm.FP.Core.inUnits c q (min q r) + Jvm.FP.Core.inUnits d r (min q r)) (min q r) (-298) = (fz x + fz y) * 2 ^ 149 := by
    rw [un_add, un_un c (by omega) (by omega), un_un d (by omega) (by omega), un_move c hq, un_move d hr, fz_fin h1, fz_fin h2, Nat.add_mul]
  obtain ⟨c', q', g1, g2, g3, g4⟩ := rr_err (A := Jvm.FP.Core.inUnits c q (min q r) + Jvm.FP.Core.inUnits d r (min q r)) (e := min q r) (by omega) (by
    rw [ev]
    have := Nat.mul_le_mul_right (2 ^ 149) hb
    exact Nat.le_trans this (by decide +kernel))
  rw [g1] at k2
  rw [ev, ← fz_fin k2] at g3 g4
  exact ⟨⟨c', q', k2, g2⟩, le_c149 g3, le_c149 g4⟩
theorem fz_mul {x y : UInt32} (hx : fnz x) (hy : fnz y) (hb : fz x * fz y ≤ 2 ^ 300) : fnz (FP.fmul x y) ∧ fz (FP.fmul x y) * 2 ^ 149 ≤ fz x * fz y + 2 ^ 277 ∧ fz x * fz y ≤ fz (FP.fmul x y) * 2 ^ 149 + 2 ^ 277 := by
  obtain ⟨c, q, h1, hq⟩ := hx
  obtain ⟨d, r, h2, hr⟩ := hy
  have k := Jvm.FP.Core.val32_fmul x y
  rw [h1, h2] at k
  have k2 : Jvm.FP.Core.val32 (FP.fmul x y) = Jvm.FP.Core.roundRatio Jvm.FP.Core.b32 false (c * d) 1 (q + r) := k
  rw [qm32] at hq hr
  have ev : Jvm.FP.Core.inUnits (c * d) (q + r) (-298) = fz x * fz y := by
    rw [fz_fin h1, fz_fin h2]
    unfold Jvm.FP.Core.inUnits
    rw [show (q + r - (-298)).toNat = (q - (-149)).toNat + (r - (-149)).toNat by omega, Nat.pow_add]
    ac_rfl
  obtain ⟨c', q', g1, g2, g3, g4⟩ := rr_err (A := c * d) (e := q + r) (by omega) (by rw [ev]; exact hb)
  rw [g1] at k2
  rw [ev, ← fz_fin k2] at g3 g4
  exact ⟨⟨c', q', k2, g2⟩, g3, g4⟩
/-- a quotient of small whole numbers -/
def fqB (a b : Nat) : Bool := match Jvm.FP.Core.val32 (fQ a b) with
  | .fin s c q => !s && decide (Jvm.FP.Core.b32.qmin ≤ q) && (decide (b < a) || (decide (Jvm.FP.Core.inUnits c q (-149) * b ≤ a * 2 ^ 149 + b * 2 ^ 125) && decide (a * 2 ^ 149 ≤ Jvm.FP.Core.inUnits c q (-149) * b + b * 2 ^ 125) && decide (Jvm.FP.Core.inUnits c q (-149) ≤ 2 ^ 149))) && (decide (a ≠ 0) || decide (Jvm.FP.Core.inUnits c q (-149) = 0))
  | _ => false
theorem fqB_all : ∀ a, a < 10 → ∀ b, b < 55 → 0 < b → fqB a b = true := by decide +kernel
def U0 : Nat := 2 ^ 149
def K0 : Nat := 2 ^ 277
def E0 : Nat := 2 ^ 128
def V0 : Nat := 2 ^ 125
def U151 : Nat := 2 ^ 151
def Q0 : Nat := 2 ^ 300
theorem K0_eq : K0 = E0 * U0 := by
  unfold K0 E0 U0
  exact pw_split
theorem U0_pos : 0 < U0 := by
  unfold U0
  exact Nat.two_pow_pos 149
theorem fz_add2 {x y : UInt32} (hx : fnz x) (hy : fnz y) (hb : fz x + fz y ≤ U151) : fnz (FP.fadd x y) ∧ fz (FP.fadd x y) ≤ fz x + fz y + E0 ∧ fz x + fz y ≤ fz (FP.fadd x y) + E0 := by
  unfold U151 at hb
  unfold E0
  exact fz_add hx hy hb
theorem fz_mul2 {x y : UInt32} (hx : fnz x) (hy : fnz y) (hb : fz x * fz y ≤ Q0) : fnz (FP.fmul x y) ∧ fz (FP.fmul x y) * U0 ≤ fz x * fz y + K0 ∧ fz x * fz y ≤ fz (FP.fmul x y) * U0 + K0 := by
  unfold Q0 at hb
  unfold U0 K0
  exact fz_mul hx hy hb
theorem fq_all {a b : Nat} (ha : a < 10) (hb : b < 55) (h0 : 0 < b) (hab : a ≤ b) : fnz (fQ a b) ∧ fz (fQ a b) * b ≤ a * U0 + b * V0 ∧ a * U0 ≤ fz (fQ a b) * b + b * V0 ∧ fz (fQ a b) ≤ U0 ∧ (a = 0 → fz (fQ a b) = 0) := by
  have h := fqB_all a ha b hb h0
  unfold fqB at h
  unfold U0 V0
  split at h
  · next s c q e =>
    simp only [Bool.and_eq_true, Bool.or_eq_true, Bool.not_eq_true', decide_eq_true_eq] at h
    obtain ⟨⟨⟨h1, h2⟩, h3⟩, h6⟩ := h
    subst h1
    rw [fz_fin e]
    obtain ⟨⟨k1, k2⟩, k3⟩ := h3.resolve_left (by omega)
    exact ⟨⟨c, q, e, h2⟩, k1, k2, k3, fun z => h6.resolve_left (fun y => y z)⟩
  · cases h
theorem f0_val : Jvm.FP.Core.val32 FP.fconst0 = .fin false 0 Jvm.FP.Core.b32.qmin := Jvm.FP.Core.val32_fconst0
theorem f1_val : Jvm.FP.Core.val32 FP.fconst1 = .fin false (2 ^ 23) (-23) := Jvm.FP.Core.val32_fconst1
theorem fz_0 : fz FP.fconst0 = 0 := by
  rw [fz_fin f0_val]
  decide
theorem fz_1 : fz FP.fconst1 = U0 := by
  rw [fz_fin f1_val]
  unfold U0
  decide +kernel
theorem fn_0 : fnz FP.fconst0 := ⟨0, Jvm.FP.Core.b32.qmin, f0_val, Int.le_refl _⟩
theorem fn_1 : fnz FP.fconst1 := ⟨2 ^ 23, -23, f1_val, by decide⟩
theorem sN_zero : ∀ m, sN (fun _ => 0) m = 0
  | 0 => rfl
  | m + 1 => by
    show sN (fun _ => 0) m + 0 = 0
    rw [sN_zero m]
section
variable {W : Nat → Nat} {n : Nat}
/-- a row of the chances -/
theorem fq_row (hn : n ≤ 6) (hW : ∀ k, k < 36 → W k ≤ 9) {x : Nat} (hx : x < n) : (∀ y, y < n → fnz (fqT W n x y) ∧ fz (fqT W n x y) ≤ U0 ∧ (chA W n x y = 0 → fz (fqT W n x y) = 0)) ∧ sN (fun y => fz (fqT W n x y)) n ≤ U0 + n * V0 ∧ U0 ≤ sN (fun y => fz (fqT W n x y)) n + n * V0 := by
  have key : ∃ (wt : Nat → Nat) (D : Nat), 0 < D ∧ sN wt n = D ∧ ∀ y, y < n → fnz (fqT W n x y) ∧ fz (fqT W n x y) ≤ U0 ∧ (chA W n x y = 0 → fz (fqT W n x y) = 0) ∧ fz (fqT W n x y) * D ≤ wt y * U0 + D * V0 ∧ wt y * U0 ≤ fz (fqT W n x y) * D + D * V0 := by
    have one : ∀ (w D : Nat) (y : Nat), y < n → 0 < D → w ≤ D → chA W n x y = rdA w D → chB W n x y = rdB w D → fnz (fqT W n x y) ∧ fz (fqT W n x y) ≤ U0 ∧ (chA W n x y = 0 → fz (fqT W n x y) = 0) ∧ fz (fqT W n x y) * D ≤ w * U0 + D * V0 ∧ w * U0 ≤ fz (fqT W n x y) * D + D * V0 := by
      intro w D y hy hD hwD e1 e2
      obtain ⟨a, b, h1, h2, h3, h4, h5⟩ := ch_b (n := n) (x := x) (y := y) hn (by omega) (by omega) hW
      obtain ⟨-, -, -, f4, f5, f6⟩ := rd_fact (n := (w : Int)) (d := (D : Int)) (by omega)
      rw [← e1, h1] at f4
      rw [← e2, h2] at f5
      generalize Int.gcd (w : Int) (D : Int) = g at f4 f5 f6
      have f4' : w = a * g := by exact_mod_cast f4
      have f5' : D = b * g := by exact_mod_cast f5
      have g0 : 0 < g := by omega
      have hab : a ≤ b := by
        rw [f4', f5'] at hwD
        exact Nat.le_of_mul_le_mul_right hwD g0
      obtain ⟨q1, q2, q3, q4, q5⟩ := fq_all h3 h5 h4 hab
      have eq : fqT W n x y = fQ a b := by
        unfold fqT
        rw [h1, h2]
        rfl
      rw [eq, h1]
      refine ⟨q1, q4, fun z => q5 (by omega), ?_, ?_⟩
      · rw [f4', f5', ← Nat.mul_assoc, Nat.mul_right_comm a g, Nat.mul_right_comm b g, ← Nat.add_mul]
        exact Nat.mul_le_mul_right g q2
      · rw [f4', f5', ← Nat.mul_assoc, Nat.mul_right_comm a g, Nat.mul_right_comm b g, ← Nat.add_mul]
        exact Nat.mul_le_mul_right g q3
    by_cases c : degN W x n = 0
    · refine ⟨fun y => if x = y then 1 else 0, 1, by decide, ?_, fun y hy => one (if x = y then 1 else 0) 1 y hy (by decide) (by split <;> omega) ?_ ?_⟩
      · have := sN_up (f := fun _ => 0) (g := fun y => if x = y then 1 else 0) (c := x) (w := 1) (fun k => by
          by_cases d : x = k
          · rw [if_pos d, if_pos d.symm]
          · rw [if_neg d, if_neg (fun z => d z.symm)]) n
        rw [this, if_pos hx]
        rw [sN_zero, Nat.zero_add]
      · unfold chA
        rw [if_pos c]
        by_cases d : x = y
        · rw [if_pos d, if_pos d]; rfl
        · rw [if_neg d, if_neg d]; rfl
      · unfold chB
        rw [if_pos c]
        by_cases d : x = y
        · rw [if_pos d, if_pos d]; rfl
        · rw [if_neg d, if_neg d]; rfl
    · refine ⟨fun y => W (x * 6 + y), degN W x n, by omega, rfl, fun y hy => one (W (x * 6 + y)) (degN W x n) y hy (by omega) (sN_ge (f := fun u => W (x * 6 + u)) n hy) ?_ ?_⟩
      · unfold chA
        rw [if_neg c]
      · unfold chB
        rw [if_neg c]
  obtain ⟨wt, D, hD, hs, hy⟩ := key
  refine ⟨fun y h => ⟨(hy y h).1, (hy y h).2.1, (hy y h).2.2.1⟩, ?_, ?_⟩
  · have : ∀ m, m ≤ n → sN (fun y => fz (fqT W n x y)) m * D ≤ sN wt m * U0 + m * (D * V0) := by
      intro m
      induction m with
      | zero => intro _; exact Nat.le_of_eq (by simp [sN])
      | succ m ih =>
        intro hm
        have h1 := ih (by omega)
        have h2 := (hy m (by omega)).2.2.2.1
        rw [sN, sN, Nat.add_mul, Nat.add_mul, Nat.succ_mul]
        generalize sN wt m * U0 = A at h1 ⊢
        generalize m * (D * V0) = B at h1 ⊢
        generalize D * V0 = C at h2 ⊢
        omega
    have h := this n (Nat.le_refl _)
    rw [hs] at h
    have e : D * U0 + n * (D * V0) = (U0 + n * V0) * D := by
      rw [Nat.add_mul, Nat.mul_comm D, ← Nat.mul_assoc, Nat.mul_right_comm n D, ]
    rw [e] at h
    exact Nat.le_of_mul_le_mul_right h hD
  · have : ∀ m, m ≤ n → sN wt m * U0 ≤ sN (fun y => fz (fqT W n x y)) m * D + m * (D * V0) := by
      intro m
      induction m with
      | zero => intro _; exact Nat.le_of_eq (by simp [sN])
      | succ m ih =>
        intro hm
        have h1 := ih (by omega)
        have h2 := (hy m (by omega)).2.2.2.2
        rw [sN, sN, Nat.add_mul, Nat.add_mul, Nat.succ_mul]
        generalize sN wt m * U0 = A at h1 ⊢
        generalize m * (D * V0) = B at h1 ⊢
        generalize D * V0 = C at h2 ⊢
        omega
    have h := this n (Nat.le_refl _)
    rw [hs] at h
    have e : sN (fun y => fz (fqT W n x y)) n * D + n * (D * V0) = (sN (fun y => fz (fqT W n x y)) n + n * V0) * D := by
      rw [Nat.add_mul, ← Nat.mul_assoc, Nat.mul_right_comm n D]
    rw [e, Nat.mul_comm D] at h
    exact Nat.le_of_mul_le_mul_right h hD
theorem sN_add (f g : Nat → Nat) : ∀ m, sN (fun k => f k + g k) m = sN f m + sN g m
  | 0 => rfl
  | m + 1 => by
    rw [sN, sN, sN, sN_add f g m]
    omega
theorem sN_mul (c : Nat) (f : Nat → Nat) : ∀ m, sN (fun k => c * f k) m = c * sN f m
  | 0 => rfl
  | m + 1 => by rw [sN, sN, sN_mul c f m, Nat.mul_add]
theorem sN_swap (f : Nat → Nat → Nat) (n : Nat) : ∀ m, sN (fun y => sN (fun x => f x y) n) m = sN (fun x => sN (fun y => f x y) m) n
  | 0 => (sN_zero n).symm
  | m + 1 => by
    rw [sN, sN_swap f n m, ← sN_add]
    rfl
theorem sN_le2 {f g : Nat → Nat} : ∀ m, (∀ k, k < m → f k ≤ g k) → sN f m ≤ sN g m := fun m h => (sN_mono m h).1
theorem pw_a : U0 * (2 * U0) + 13 * K0 ≤ U151 * U0 := by
  unfold U0 K0 U151
  decide +kernel
theorem pw_b : 2 * U0 * U0 ≤ Q0 := by
  unfold U0 Q0
  decide +kernel
theorem pw_c : 2 * U0 * (5 * V0) ≤ 2 * K0 := by
  unfold U0 V0 K0
  decide +kernel
theorem pw_d : U0 + 988 * E0 ≤ 2 * U0 := by
  unfold U0 E0
  decide +kernel
/-- one chance a step later -/
theorem flA_err (hn : n ≤ 5) (hW : ∀ k, k < 36 → W k ≤ 9) {nw : Nat → UInt32} (hnw : ∀ x, x < n → fnz (nw x)) (hS : sN (fun x => fz (nw x)) n ≤ 2 * U0) {y : Nat} (hy : y < n) : ∀ x, x ≤ n → fnz (flA W n nw y x) ∧ fz (flA W n nw y x) * U0 ≤ sN (fun x => fz (nw x) * fz (fqT W n x y)) x + 2 * x * K0 ∧ sN (fun x => fz (nw x) * fz (fqT W n x y)) x ≤ fz (flA W n nw y x) * U0 + 2 * x * K0
  | 0, _ => ⟨fn_0, by
      show fz FP.fconst0 * U0 ≤ _ ∧ _ ≤ fz FP.fconst0 * U0 + _
      rw [fz_0]
      exact ⟨by rw [Nat.zero_mul]; exact Nat.zero_le _, Nat.zero_le _⟩⟩
  | x + 1, hx => by
    obtain ⟨i1, i2, i3⟩ := flA_err hn hW hnw hS hy x (by omega)
    obtain ⟨q1, q2, q3⟩ := (fq_row (by omega) hW (show x < n by omega)).1 y hy
    have e0 : sN (fun x => fz (nw x) * fz (fqT W n x y)) (x + 1) = sN (fun x => fz (nw x) * fz (fqT W n x y)) x + fz (nw x) * fz (fqT W n x y) := rfl
    have e2 : 2 * (x + 1) * K0 = 2 * x * K0 + 2 * K0 := by rw [← Nat.add_mul]; rfl
    rw [flA, e0, e2]
    by_cases c : chA W n x y = 0
    · rw [if_pos c, q3 c, Nat.mul_zero, Nat.add_zero]
      generalize 2 * x * K0 = A at i2 i3 ⊢
      generalize (2 : Nat) * K0 = B
      exact ⟨i1, by omega, by omega⟩
    · rw [if_neg c]
      have hzx : fz (nw x) ≤ 2 * U0 := Nat.le_trans (sN_ge (f := fun x => fz (nw x)) n (show x < n by omega)) hS
      obtain ⟨m1, m2, m3⟩ := fz_mul2 (hnw x (by omega)) q1 (Nat.le_trans (Nat.mul_le_mul hzx q2) pw_b)
      have tot : sN (fun x => fz (nw x) * fz (fqT W n x y)) x + fz (nw x) * fz (fqT W n x y) ≤ U0 * (2 * U0) := by
        rw [← e0]
        have h1 : sN (fun x => fz (nw x) * fz (fqT W n x y)) (x + 1) ≤ sN (fun x => U0 * fz (nw x)) (x + 1) := sN_le2 _ (fun k hk => by
          rw [Nat.mul_comm (U0)]
          exact Nat.mul_le_mul_left _ ((fq_row (by omega) hW (show k < n by omega)).1 y hy).2.1)
        rw [sN_mul] at h1
        have h2 : sN (fun x => fz (nw x)) (x + 1) ≤ sN (fun x => fz (nw x)) n := by
          have : ∀ d m, sN (fun x => fz (nw x)) m ≤ sN (fun x => fz (nw x)) (m + d) := fun d => by
            induction d with
            | zero => exact fun m => Nat.le_refl _
            | succ d ih => exact fun m => Nat.le_trans (ih m) (Nat.le_add_right _ _)
          have := this (n - (x + 1)) (x + 1)
          rw [show x + 1 + (n - (x + 1)) = n by omega] at this
          exact this
        exact Nat.le_trans h1 (Nat.mul_le_mul_left _ (Nat.le_trans h2 hS))
      have hx4 : 2 * x * K0 + K0 ≤ 13 * K0 := by
        have : 2 * x * K0 + K0 = (2 * x + 1) * K0 := by rw [Nat.add_mul, Nat.one_mul]
        rw [this]
        exact Nat.mul_le_mul_right _ (by omega)
      have hsum : fz (flA W n nw y x) + fz (FP.fmul (nw x) (fqT W n x y)) ≤ U151 := by
        refine Nat.le_of_mul_le_mul_right ?_ (U0_pos)
        rw [Nat.add_mul]
        have := pw_a
        generalize U0 * (2 * U0) = P at tot this
        generalize U151 * U0 = Q at this ⊢
        generalize 13 * K0 = R at hx4 this
        generalize 2 * x * K0 = A at i2 hx4
        generalize K0 = B at m2 hx4
        generalize fz (flA W n nw y x) * U0 = F at i2 ⊢
        generalize fz (FP.fmul (nw x) (fqT W n x y)) * U0 = G at m2 ⊢
        omega
      obtain ⟨a1, a2, a3⟩ := fz_add2 i1 m1 hsum
      have b2 := Nat.mul_le_mul_right (U0) a2
      have b3 := Nat.mul_le_mul_right (U0) a3
      rw [Nat.add_mul, Nat.add_mul, ← K0_eq] at b2
      rw [Nat.add_mul, Nat.add_mul, ← K0_eq] at b3
      refine ⟨a1, ?_, ?_⟩
      · generalize 2 * x * K0 = A at i2 i3 ⊢
        have : 2 * K0 = K0 + K0 := by omega
        rw [this]
        generalize K0 = B at m2 m3 b2 b3 ⊢
        omega
      · generalize 2 * x * K0 = A at i2 i3 ⊢
        have : 2 * K0 = K0 + K0 := by omega
        rw [this]
        generalize K0 = B at m2 m3 b2 b3 ⊢
        omega
/-- a whole step -/
theorem fl_step (hn : n ≤ 5) (hW : ∀ k, k < 36 → W k ≤ 9) {nw : Nat → UInt32} (hnw : ∀ x, x < n → fnz (nw x)) (hS : sN (fun x => fz (nw x)) n ≤ 2 * U0) : sN (fun y => fz (flA W n nw y n)) n ≤ sN (fun x => fz (nw x)) n + 52 * E0 ∧ sN (fun x => fz (nw x)) n ≤ sN (fun y => fz (flA W n nw y n)) n + 52 * E0 := by
  have row : ∀ x, x < n → sN (fun y => fz (fqT W n x y)) n ≤ U0 + 5 * V0 ∧ U0 ≤ sN (fun y => fz (fqT W n x y)) n + 5 * V0 := fun x hx => by
    obtain ⟨-, r1, r2⟩ := fq_row (by omega) hW hx
    have := Nat.mul_le_mul_right (V0) hn
    exact ⟨Nat.le_trans r1 (Nat.add_le_add_left this _), Nat.le_trans r2 (Nat.add_le_add_left this _)⟩
  have sw : sN (fun y => sN (fun x => fz (nw x) * fz (fqT W n x y)) n) n = sN (fun x => fz (nw x) * sN (fun y => fz (fqT W n x y)) n) n := by
    rw [sN_swap]
    exact sN_cong n (fun x _ => sN_mul _ _ _)
  have cst : ∀ (c : Nat) m, sN (fun _ => c) m = m * c := fun c m => by
    induction m with
    | zero => rw [Nat.zero_mul]; rfl
    | succ m ih => rw [sN, ih, Nat.succ_mul]
  have up : sN (fun y => fz (flA W n nw y n)) n * U0 ≤ sN (fun y => sN (fun x => fz (nw x) * fz (fqT W n x y)) n) n + 50 * K0 := by
    have h1 : sN (fun y => U0 * fz (flA W n nw y n)) n ≤ sN (fun y => sN (fun x => fz (nw x) * fz (fqT W n x y)) n + 2 * n * K0) n := sN_le2 n (fun y hy => by
      rw [Nat.mul_comm (U0)]
      exact (flA_err hn hW hnw hS hy n (Nat.le_refl _)).2.1)
    rw [sN_mul, sN_add, cst, Nat.mul_comm (U0)] at h1
    refine Nat.le_trans h1 (Nat.add_le_add_left ?_ _)
    rw [← Nat.mul_assoc]
    refine Nat.mul_le_mul_right _ ?_
    have := Nat.mul_le_mul hn (Nat.mul_le_mul_left 2 hn)
    omega
  have lo : sN (fun y => sN (fun x => fz (nw x) * fz (fqT W n x y)) n) n ≤ sN (fun y => fz (flA W n nw y n)) n * U0 + 50 * K0 := by
    have h1 : sN (fun y => sN (fun x => fz (nw x) * fz (fqT W n x y)) n) n ≤ sN (fun y => U0 * fz (flA W n nw y n) + 2 * n * K0) n := sN_le2 n (fun y hy => by
      rw [Nat.mul_comm (U0)]
      exact (flA_err hn hW hnw hS hy n (Nat.le_refl _)).2.2)
    rw [sN_add, sN_mul, cst, Nat.mul_comm (U0)] at h1
    refine Nat.le_trans h1 (Nat.add_le_add_left ?_ _)
    rw [← Nat.mul_assoc]
    refine Nat.mul_le_mul_right _ ?_
    have := Nat.mul_le_mul hn (Nat.mul_le_mul_left 2 hn)
    omega
  have mid1 : sN (fun x => fz (nw x) * sN (fun y => fz (fqT W n x y)) n) n ≤ sN (fun x => fz (nw x)) n * U0 + 2 * K0 := by
    have h1 : sN (fun x => fz (nw x) * sN (fun y => fz (fqT W n x y)) n) n ≤ sN (fun x => (U0 + 5 * V0) * fz (nw x)) n := sN_le2 n (fun x hx => by
      rw [Nat.mul_comm (U0 + 5 * V0)]
      exact Nat.mul_le_mul_left _ (row x hx).1)
    rw [sN_mul, Nat.add_mul, Nat.mul_comm (U0)] at h1
    refine Nat.le_trans h1 (Nat.add_le_add_left ?_ _)
    have := Nat.mul_le_mul_right (5 * V0) hS
    rw [Nat.mul_comm]
    exact Nat.le_trans this pw_c
  have mid2 : sN (fun x => fz (nw x)) n * U0 ≤ sN (fun x => fz (nw x) * sN (fun y => fz (fqT W n x y)) n) n + 2 * K0 := by
    have h1 : sN (fun x => U0 * fz (nw x)) n ≤ sN (fun x => fz (nw x) * sN (fun y => fz (fqT W n x y)) n + 5 * V0 * fz (nw x)) n := sN_le2 n (fun x hx => by
      rw [Nat.mul_comm (U0), Nat.mul_comm (5 * V0), ← Nat.mul_add]
      exact Nat.mul_le_mul_left _ (row x hx).2)
    rw [sN_mul, sN_add, sN_mul, Nat.mul_comm (U0)] at h1
    refine Nat.le_trans h1 (Nat.add_le_add_left ?_ _)
    have := Nat.mul_le_mul_right (5 * V0) hS
    rw [Nat.mul_comm]
    exact Nat.le_trans this pw_c
  rw [sw] at up lo
  have e52 : 52 * K0 = 50 * K0 + 2 * K0 := by rw [← Nat.add_mul]
  have e52' : 52 * K0 = 52 * E0 * U0 := by rw [K0_eq, Nat.mul_assoc]
  constructor
  · refine Nat.le_of_mul_le_mul_right ?_ (U0_pos)
    rw [Nat.add_mul, ← e52', e52]
    generalize 50 * K0 = A at up lo ⊢
    generalize 2 * K0 = B at mid1 mid2 ⊢
    omega
  · refine Nat.le_of_mul_le_mul_right ?_ (U0_pos)
    rw [Nat.add_mul, ← e52', e52]
    generalize 50 * K0 = A at up lo ⊢
    generalize 2 * K0 = B at mid1 mid2 ⊢
    omega
/-- all chances after k steps -/
theorem flN_err (hn : n ≤ 5) (hW : ∀ k, k < 36 → W k ≤ 9) {s : Nat} (hs : s < n) : ∀ k, k ≤ 19 → (∀ y, y < n → fnz (flN W n s k y)) ∧ sN (fun y => fz (flN W n s k y)) n ≤ U0 + 52 * k * E0 ∧ U0 ≤ sN (fun y => fz (flN W n s k y)) n + 52 * k * E0
  | 0, _ => by
    have e1 := fz_1
    have e0 := fz_0
    have es : sN (fun y => fz (flN W n s 0 y)) n = U0 := by
      have := sN_up (f := fun _ => 0) (g := fun y => fz (flN W n s 0 y)) (c := s) (w := U0) (fun k => by
        show fz (if k = s then FP.fconst1 else FP.fconst0) = _
        by_cases d : k = s
        · rw [if_pos d, if_pos d, e1, Nat.zero_add]
        · rw [if_neg d, if_neg d, e0]) n
      rw [this, if_pos hs]
      rw [sN_zero, Nat.zero_add]
    refine ⟨fun y _ => ?_, by rw [es]; exact Nat.le_add_right _ _, by rw [es]; exact Nat.le_add_right _ _⟩
    show fnz (if y = s then FP.fconst1 else FP.fconst0)
    split
    · exact fn_1
    · exact fn_0
  | k + 1, hk => by
    obtain ⟨i1, i2, i3⟩ := flN_err hn hW hs k (by omega)
    have hS : sN (fun y => fz (flN W n s k y)) n ≤ 2 * U0 := by
      refine Nat.le_trans i2 (Nat.le_trans (Nat.add_le_add_left (Nat.mul_le_mul_right _ ?_) _) pw_d)
      omega
    obtain ⟨s1, s2⟩ := fl_step hn hW i1 hS
    have e : 52 * (k + 1) * E0 = 52 * k * E0 + 52 * E0 := by rw [← Nat.add_mul]; rfl
    refine ⟨fun y hy => (flA_err hn hW i1 hS hy n (Nat.le_refl _)).1, ?_, ?_⟩
    · rw [e]
      refine Nat.le_trans s1 ?_
      rw [← Nat.add_assoc]
      exact Nat.add_le_add_right i2 _
    · rw [e]
      refine Nat.le_trans i3 ?_
      rw [Nat.add_comm (52 * k * E0), ← Nat.add_assoc]
      exact Nat.add_le_add_right s2 _
/-- the law's sum of them -/
def sFl (f : Nat → UInt32) : Nat → UInt32
  | 0 => FP.fconst0
  | u + 1 => FP.fadd (sFl f u) (f u)
theorem pw_e : U0 + 988 * E0 + 5 * E0 ≤ U151 := by
  unfold U0 E0 U151
  decide +kernel
theorem sFl_err {f : Nat → UInt32} (hn : n ≤ 5) (hf : ∀ y, y < n → fnz (f y)) (hS : sN (fun y => fz (f y)) n ≤ U0 + 988 * E0) : ∀ u, u ≤ n → fnz (sFl f u) ∧ fz (sFl f u) ≤ sN (fun y => fz (f y)) u + u * E0 ∧ sN (fun y => fz (f y)) u ≤ fz (sFl f u) + u * E0
  | 0, _ => by
    have e0 := fz_0
    refine ⟨fn_0, ?_, Nat.zero_le _⟩
    show fz FP.fconst0 ≤ _
    rw [e0]
    exact Nat.zero_le _
  | u + 1, hu => by
    obtain ⟨i1, i2, i3⟩ := sFl_err hn hf hS u (by omega)
    have hm : sN (fun y => fz (f y)) u + fz (f u) ≤ sN (fun y => fz (f y)) n := by
      have : ∀ d m, sN (fun y => fz (f y)) m ≤ sN (fun y => fz (f y)) (m + d) := fun d => by
        induction d with
        | zero => exact fun m => Nat.le_refl _
        | succ d ih => exact fun m => Nat.le_trans (ih m) (Nat.le_add_right _ _)
      have := this (n - (u + 1)) (u + 1)
      rw [show u + 1 + (n - (u + 1)) = n by omega] at this
      exact this
    have h5 : u * E0 ≤ 5 * E0 := Nat.mul_le_mul_right _ (by omega)
    obtain ⟨a1, a2, a3⟩ := fz_add2 i1 (hf u (by omega)) (by
      have := pw_e
      generalize U0 + 988 * E0 = A at hS this
      generalize 5 * E0 = B at h5 this
      generalize u * E0 = C at i2 h5
      omega)
    rw [sN, sFl, Nat.succ_mul]
    generalize u * E0 = C at i2 i3 ⊢
    generalize E0 = D at a2 a3 ⊢
    exact ⟨a1, by omega, by omega⟩
theorem zv_fin {x : UInt32} (h : fnz x) : Jvm.FP.Core.zval Jvm.FP.Core.b32 (Jvm.FP.Core.val32 x) = (fz x : Int) ∧ Jvm.FP.Core.val32 x ≠ .nan := by
  obtain ⟨c, q, e, -⟩ := h
  constructor
  · unfold Jvm.FP.Core.zval fz
    rw [e]
    rfl
  · rw [e]
    exact fun z => by cases z
theorem pw_f : ((Jvm.FP.Core.zval Jvm.FP.Core.b32 (Jvm.FP.Core.val32 1065336439)).toNat : Int) = Jvm.FP.Core.zval Jvm.FP.Core.b32 (Jvm.FP.Core.val32 1065336439) ∧ (Jvm.FP.Core.zval Jvm.FP.Core.b32 (Jvm.FP.Core.val32 1065336439)).toNat + 993 * E0 < U0 ∧ ((Jvm.FP.Core.zval Jvm.FP.Core.b32 (Jvm.FP.Core.val32 1065361605)).toNat : Int) = Jvm.FP.Core.zval Jvm.FP.Core.b32 (Jvm.FP.Core.val32 1065361605) ∧ U0 + 993 * E0 < (Jvm.FP.Core.zval Jvm.FP.Core.b32 (Jvm.FP.Core.val32 1065361605)).toNat ∧ Jvm.FP.Core.val32 1065336439 ≠ .nan ∧ Jvm.FP.Core.val32 1065361605 ≠ .nan := by
  unfold U0 E0
  decide +kernel
/-- the sum lies where the law asks -/
theorem all_in (hn : n ≤ 5) (hW : ∀ k, k < 36 → W k ≤ 9) {s k : Nat} (hs : s < n) (hk : k ≤ 19) : FP.fcmp (sFl (flN W n s k) n) 1065336439 = some .gt ∧ FP.fcmp (sFl (flN W n s k) n) 1065361605 = some .lt := by
  obtain ⟨f1, f2, f3⟩ := flN_err hn hW hs k hk
  have hk2 : 52 * k * E0 ≤ 988 * E0 := Nat.mul_le_mul_right _ (by omega)
  obtain ⟨g1, g2, g3⟩ := sFl_err hn f1 (Nat.le_trans f2 (Nat.add_le_add_left hk2 _)) n (Nat.le_refl _)
  have hn5 : n * E0 ≤ 5 * E0 := Nat.mul_le_mul_right _ hn
  obtain ⟨z1, z2⟩ := zv_fin g1
  obtain ⟨p1, p2, p3, p4, p5, p6⟩ := pw_f
  have e993 : 993 * E0 = 988 * E0 + 5 * E0 := by rw [← Nat.add_mul]
  rw [e993] at p2 p4
  generalize (Jvm.FP.Core.zval Jvm.FP.Core.b32 (Jvm.FP.Core.val32 1065336439)).toNat = A at p1 p2
  generalize (Jvm.FP.Core.zval Jvm.FP.Core.b32 (Jvm.FP.Core.val32 1065361605)).toNat = B at p3 p4
  generalize 988 * E0 = C at hk2 p2 p4
  generalize 5 * E0 = D at hn5 p2 p4
  generalize 52 * k * E0 = E at f2 f3 hk2
  generalize n * E0 = F at g2 g3 hn5
  generalize U0 = U at f2 f3 p2 p4
  constructor
  · have h : FP.fcmp (sFl (flN W n s k) n) 1065336439 = some (compare (Jvm.FP.Core.zval Jvm.FP.Core.b32 (Jvm.FP.Core.val32 (sFl (flN W n s k) n))) (Jvm.FP.Core.zval Jvm.FP.Core.b32 (Jvm.FP.Core.val32 1065336439))) := Jvm.FP.Core.fcmp_zval z2 p5
    rw [h, z1, ← p1, Jvm.FP.Core.compare_ite, if_neg (by omega), if_neg (by omega)]
  · have h : FP.fcmp (sFl (flN W n s k) n) 1065361605 = some (compare (Jvm.FP.Core.zval Jvm.FP.Core.b32 (Jvm.FP.Core.val32 (sFl (flN W n s k) n))) (Jvm.FP.Core.zval Jvm.FP.Core.b32 (Jvm.FP.Core.val32 1065361605))) := Jvm.FP.Core.fcmp_zval z2 p6
    rw [h, z1, ← p3, Jvm.FP.Core.compare_ite, if_pos (by omega)]
end

