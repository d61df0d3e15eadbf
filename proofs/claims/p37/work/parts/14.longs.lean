/-! ===== longs told by Int; Fraction; Arrays.fill ===== -/
def lI (z : Int) : Int64 := Int64.ofInt z
def inL (z : Int) : Prop := -9223372036854775808 ≤ z ∧ z ≤ 9223372036854775807
theorem lI_add (a b : Int) : lI a + lI b = lI (a + b) := (Int64.ofInt_add a b).symm
theorem lI_sub (a b : Int) : lI a - lI b = lI (a - b) := (Int64.ofInt_sub a b).symm
theorem lI_mul (a b : Int) : lI a * lI b = lI (a * b) := (Int64.ofInt_mul a b).symm
theorem lI_neg (a : Int) : -lI a = lI (-a) := (Int64.ofInt_neg a).symm
theorem lI_toInt {z : Int} (h : inL z) : (lI z).toInt = z := Int64.toInt_ofInt_of_le (by have := h.1; omega) (by have := h.2; omega)
theorem lI_lt {a b : Int} (ha : inL a) (hb : inL b) : lI a < lI b ↔ a < b := by rw [Int64.lt_iff_toInt_lt, lI_toInt ha, lI_toInt hb]
theorem lI_le {a b : Int} (ha : inL a) (hb : inL b) : lI a ≤ lI b ↔ a ≤ b := by rw [Int64.le_iff_toInt_le, lI_toInt ha, lI_toInt hb]
theorem lI_eq {a b : Int} (ha : inL a) (hb : inL b) : lI a = lI b ↔ a = b := by rw [← Int64.toInt_inj, lI_toInt ha, lI_toInt hb]
theorem lI_div {a b : Int} (ha : inL a) (hb : inL b) : lI a / lI b = lI (a.tdiv b) := by
  have h1 : (Int64.minValue).toInt = -9223372036854775808 := by decide
  have h2 : (Int64.maxValue).toInt = 9223372036854775807 := by decide
  exact (Int64.ofInt_tdiv (by rw [h1]; exact ha.1) (by rw [h2]; exact ha.2) (by rw [h1]; exact hb.1) (by rw [h2]; exact hb.2)).symm
theorem lI_rem {a b : Int} (ha : inL a) (hb : inL b) : lI a - lI a / lI b * lI b = lI (a.tmod b) := by
  rw [lI_div ha hb, lI_mul, lI_sub]
  have := Int.tmod_add_mul_tdiv a b
  rw [Int.mul_comm] at this
  congr 1
  omega
theorem lI_ne0 {b : Int} (hb : inL b) (h0 : b ≠ 0) : ¬ lI b = 0 := fun q => h0 ((lI_eq hb (b := 0) ⟨by omega, by omega⟩).mp q)
theorem nI_toInt64 {k : Nat} (hk : k < 2147483648) : (nI k).toInt64 = lI k := by
  rw [← Int64.ofInt_int32ToInt, nI_toInt (by omega)]
  rfl
theorem lI_toInt32 (k : Nat) : (lI k).toInt32 = nI k := by
  show (Int64.ofInt k).toInt32 = _
  rw [Int64.toInt32_ofInt]
  exact Int32.ofInt_eq_ofNat
theorem inL_nat {k : Nat} (hk : k < 9223372036854775808) : inL k := ⟨by omega, by omega⟩
section
variable {v : Ev} {M : Md} {R : Room} {K : List Frame → Array Value → State → State → Prop} {t0 cells slots : Nat} {h : Hp} {top pc : Nat} {ls : List (Option Value)} {st : List Value}
theorem r_laddL {a b : Int} (d : decode M.2.1 pc = .ok (.ladd, 1)) (k : J v M R K t0 cells slots h top (pc + 1) ls (.long (lI (a + b)) :: st)) : J v M R K t0 cells slots h top pc ls (.long (lI b) :: .long (lI a) :: st) := r_ladd d (by rw [lI_add]; exact k)
theorem r_lsubL {a b : Int} (d : decode M.2.1 pc = .ok (.lsub, 1)) (k : J v M R K t0 cells slots h top (pc + 1) ls (.long (lI (a - b)) :: st)) : J v M R K t0 cells slots h top pc ls (.long (lI b) :: .long (lI a) :: st) := r_lsub d (by rw [lI_sub]; exact k)
theorem r_lmulL {a b : Int} (d : decode M.2.1 pc = .ok (.lmul, 1)) (k : J v M R K t0 cells slots h top (pc + 1) ls (.long (lI (a * b)) :: st)) : J v M R K t0 cells slots h top pc ls (.long (lI b) :: .long (lI a) :: st) := r_lmul d (by rw [lI_mul]; exact k)
theorem r_lnegL {a : Int} (d : decode M.2.1 pc = .ok (.lneg, 1)) (k : J v M R K t0 cells slots h top (pc + 1) ls (.long (lI (-a)) :: st)) : J v M R K t0 cells slots h top pc ls (.long (lI a) :: st) := r_lneg d (by rw [lI_neg]; exact k)
theorem r_ldivL {a b : Int} (d : decode M.2.1 pc = .ok (.ldiv, 1)) (ha : inL a) (hb : inL b) (h0 : b ≠ 0) (k : J v M R K t0 cells slots h top (pc + 1) ls (.long (lI (a.tdiv b)) :: st)) : J v M R K t0 cells slots h top pc ls (.long (lI b) :: .long (lI a) :: st) := r_ldiv d (lI_ne0 hb h0) (by rw [lI_div ha hb]; exact k)
theorem r_lremL {a b : Int} (d : decode M.2.1 pc = .ok (.lrem, 1)) (ha : inL a) (hb : inL b) (h0 : b ≠ 0) (k : J v M R K t0 cells slots h top (pc + 1) ls (.long (lI (a.tmod b)) :: st)) : J v M R K t0 cells slots h top pc ls (.long (lI b) :: .long (lI a) :: st) := r_lrem d (lI_ne0 hb h0) (by rw [lI_rem ha hb]; exact k)
theorem r_i2lN {a : Nat} (d : decode M.2.1 pc = .ok (.i2l, 1)) (ha : a < 2147483648) (k : J v M R K t0 cells slots h top (pc + 1) ls (.long (lI a) :: st)) : J v M R K t0 cells slots h top pc ls (.int (nI a) :: st) := r_i2l d (by rw [nI_toInt64 ha]; exact k)
theorem r_l2iN {a : Nat} (d : decode M.2.1 pc = .ok (.l2i, 1)) (k : J v M R K t0 cells slots h top (pc + 1) ls (.int (nI a) :: st)) : J v M R K t0 cells slots h top pc ls (.long (lI a) :: st) := r_l2i d (by rw [lI_toInt32]; exact k)
theorem r_lc_eq {a b : Int} {off : Int} (tgt : Nat) (d1 : decode M.2.1 pc = .ok (.lcmp, 1)) (d2 : decode M.2.1 (pc + 1) = .ok (.ifCond .eq off, 3)) (ht : ((pc + 1 : Nat) : Int) + off = (tgt : Int)) (ha : inL a) (hb : inL b) (kt : a = b → J v M R K t0 cells slots h top tgt ls st) (kf : a ≠ b → J v M R K t0 cells slots h top (pc + 1 + 3) ls st) : J v M R K t0 cells slots h top pc ls (.long (lI b) :: .long (lI a) :: st) := by
  refine r_lcmp d1 ?_
  exact r_if_eq tgt d2 ht (fun q => kt ((lI_eq ha hb).mp ((lg_cmp_eq _ _).mp q))) (fun q => kf (fun z => q ((lg_cmp_eq _ _).mpr ((lI_eq ha hb).mpr z))))
theorem r_lc_ne {a b : Int} {off : Int} (tgt : Nat) (d1 : decode M.2.1 pc = .ok (.lcmp, 1)) (d2 : decode M.2.1 (pc + 1) = .ok (.ifCond .ne off, 3)) (ht : ((pc + 1 : Nat) : Int) + off = (tgt : Int)) (ha : inL a) (hb : inL b) (kt : a ≠ b → J v M R K t0 cells slots h top tgt ls st) (kf : a = b → J v M R K t0 cells slots h top (pc + 1 + 3) ls st) : J v M R K t0 cells slots h top pc ls (.long (lI b) :: .long (lI a) :: st) := by
  refine r_lcmp d1 ?_
  exact r_if_ne tgt d2 ht (fun q => kt (fun z => q ((lg_cmp_eq _ _).mpr ((lI_eq ha hb).mpr z)))) (fun q => kf ((lI_eq ha hb).mp ((lg_cmp_eq _ _).mp q)))
theorem r_lc_lt {a b : Int} {off : Int} (tgt : Nat) (d1 : decode M.2.1 pc = .ok (.lcmp, 1)) (d2 : decode M.2.1 (pc + 1) = .ok (.ifCond .lt off, 3)) (ht : ((pc + 1 : Nat) : Int) + off = (tgt : Int)) (ha : inL a) (hb : inL b) (kt : a < b → J v M R K t0 cells slots h top tgt ls st) (kf : b ≤ a → J v M R K t0 cells slots h top (pc + 1 + 3) ls st) : J v M R K t0 cells slots h top pc ls (.long (lI b) :: .long (lI a) :: st) := by
  refine r_lcmp d1 ?_
  exact r_if_lt tgt d2 ht (fun q => kt ((lI_lt ha hb).mp ((lg_cmp_lt _ _).mp q))) (fun q => kf (Int.not_lt.mp (fun z => q ((lg_cmp_lt _ _).mpr ((lI_lt ha hb).mpr z)))))
theorem r_lc_ge {a b : Int} {off : Int} (tgt : Nat) (d1 : decode M.2.1 pc = .ok (.lcmp, 1)) (d2 : decode M.2.1 (pc + 1) = .ok (.ifCond .ge off, 3)) (ht : ((pc + 1 : Nat) : Int) + off = (tgt : Int)) (ha : inL a) (hb : inL b) (kt : b ≤ a → J v M R K t0 cells slots h top tgt ls st) (kf : a < b → J v M R K t0 cells slots h top (pc + 1 + 3) ls st) : J v M R K t0 cells slots h top pc ls (.long (lI b) :: .long (lI a) :: st) := by
  refine r_lcmp d1 ?_
  exact r_if_ge tgt d2 ht (fun q => kt ((lI_le hb ha).mp ((lg_cmp_ge _ _).mp q))) (fun q => kf (Int.not_le.mp (fun z => q ((lg_cmp_ge _ _).mpr ((lI_le hb ha).mpr z)))))
theorem r_lc_gt {a b : Int} {off : Int} (tgt : Nat) (d1 : decode M.2.1 pc = .ok (.lcmp, 1)) (d2 : decode M.2.1 (pc + 1) = .ok (.ifCond .gt off, 3)) (ht : ((pc + 1 : Nat) : Int) + off = (tgt : Int)) (ha : inL a) (hb : inL b) (kt : b < a → J v M R K t0 cells slots h top tgt ls st) (kf : a ≤ b → J v M R K t0 cells slots h top (pc + 1 + 3) ls st) : J v M R K t0 cells slots h top pc ls (.long (lI b) :: .long (lI a) :: st) := by
  refine r_lcmp d1 ?_
  exact r_if_gt tgt d2 ht (fun q => kt ((lI_lt hb ha).mp ((lg_cmp_gt _ _).mp q))) (fun q => kf (Int.not_lt.mp (fun z => q ((lg_cmp_gt _ _).mpr ((lI_lt hb ha).mpr z)))))
theorem r_lc_le {a b : Int} {off : Int} (tgt : Nat) (d1 : decode M.2.1 pc = .ok (.lcmp, 1)) (d2 : decode M.2.1 (pc + 1) = .ok (.ifCond .le off, 3)) (ht : ((pc + 1 : Nat) : Int) + off = (tgt : Int)) (ha : inL a) (hb : inL b) (kt : a ≤ b → J v M R K t0 cells slots h top tgt ls st) (kf : b < a → J v M R K t0 cells slots h top (pc + 1 + 3) ls st) : J v M R K t0 cells slots h top pc ls (.long (lI b) :: .long (lI a) :: st) := by
  refine r_lcmp d1 ?_
  exact r_if_le tgt d2 ht (fun q => kt ((lI_le ha hb).mp ((lg_cmp_le _ _).mp q))) (fun q => kf (Int.not_le.mp (fun z => q ((lg_cmp_le _ _).mpr ((lI_le ha hb).mpr z)))))
theorem r_mminL {idx : Nat} {x y : Int64} (d : decode M.2.1 pc = .ok (.invokestatic idx, 3)) (w1 : Cond.methodLink M.1.cls idx Lib.MathLoose.min_long.x ∈ big) (w2 : Cond.static Lib.MathLoose.min_long.x ∈ big) (w3 : Cond.initialized "java/lang/Math" ∈ big) (w4 : Cond.code Lib.MathLoose.min_long.x Lib.MathLoose.min_long.code 4 (some .long) ∈ big) (hf : 1 ≤ R.frames) (hl2 : (st.map fun w => w.category).sum + 15 ≤ R.locals) (hc : cells ≤ R.cells) (hs : slots ≤ R.slots) (kk : J v M R K t0 cells slots h top (pc + 3) ls (.long (if y < x then y else x) :: st)) : J v M R K t0 cells slots h top pc ls (.long y :: .long x :: st) := by
  intro p l e s m args below meth c F H locs A hz hH hS hl
  exact va_mmin_long F.1 F.2.1 (F.2.2.1.trans hl.1.symm) F.2.2.2.1 (F.ht _ w1) (F.ht _ w2) (F.ht _ w3) (F.ht _ w4) hf hl2 hc hs d (kk p l e s m args below meth c F H locs A hz hH hS hl)
theorem r_mmaxL {idx : Nat} {x y : Int64} (d : decode M.2.1 pc = .ok (.invokestatic idx, 3)) (w1 : Cond.methodLink M.1.cls idx Lib.MathLoose.max_long.x ∈ big) (w2 : Cond.static Lib.MathLoose.max_long.x ∈ big) (w3 : Cond.initialized "java/lang/Math" ∈ big) (w4 : Cond.code Lib.MathLoose.max_long.x Lib.MathLoose.max_long.code 4 (some .long) ∈ big) (hf : 1 ≤ R.frames) (hl2 : (st.map fun w => w.category).sum + 15 ≤ R.locals) (hc : cells ≤ R.cells) (hs : slots ≤ R.slots) (kk : J v M R K t0 cells slots h top (pc + 3) ls (.long (if y < x then x else y) :: st)) : J v M R K t0 cells slots h top pc ls (.long y :: .long x :: st) := by
  intro p l e s m args below meth c F H locs A hz hH hS hl
  exact va_mmax_long F.1 F.2.1 (F.2.2.1.trans hl.1.symm) F.2.2.2.1 (F.ht _ w1) (F.ht _ w2) (F.ht _ w3) (F.ht _ w4) hf hl2 hc hs d (kk p l e s m args below meth c F H locs A hz hH hS hl)
theorem r_mabsL {idx : Nat} {x : Int64} (d : decode M.2.1 pc = .ok (.invokestatic idx, 3)) (w1 : Cond.methodLink M.1.cls idx Lib.MathLoose.abs_long.x ∈ big) (w2 : Cond.static Lib.MathLoose.abs_long.x ∈ big) (w3 : Cond.initialized "java/lang/Math" ∈ big) (w4 : Cond.code Lib.MathLoose.abs_long.x Lib.MathLoose.abs_long.code 2 (some .long) ∈ big) (hf : 1 ≤ R.frames) (hl2 : (st.map fun w => w.category).sum + 13 ≤ R.locals) (hc : cells ≤ R.cells) (hs : slots ≤ R.slots) (kk : J v M R K t0 cells slots h top (pc + 3) ls (.long (if 0 < x then x else -x) :: st)) : J v M R K t0 cells slots h top pc ls (.long x :: st) := by
  intro p l e s m args below meth c F H locs A hz hH hS hl
  exact va_mabs_long F.1 F.2.1 (F.2.2.1.trans hl.1.symm) F.2.2.2.1 (F.ht _ w1) (F.ht _ w2) (F.ht _ w3) (F.ht _ w4) hf hl2 hc hs d (kk p l e s m args below meth c F H locs A hz hH hS hl)
end
theorem lcL_X0_67 : Cond.constantLong RX0 67 (lI (-1000000)) ∈ big := by rw [show lI (-1000000) = (-1000000) by decide]; exact lc_X0_67
theorem lcL_X0_69 : Cond.constantLong RX0 69 (lI (1000000)) ∈ big := by rw [show lI (1000000) = (1000000) by decide]; exact lc_X0_69
theorem lcL_X8_46 : Cond.constantLong RX8 46 (lI (1103515245)) ∈ big := by rw [show lI (1103515245) = (1103515245) by decide]; exact lc_X8_46
theorem lcL_X8_48 : Cond.constantLong RX8 48 (lI (12345)) ∈ big := by rw [show lI (12345) = (12345) by decide]; exact lc_X8_48
theorem lcL_X8_50 : Cond.constantLong RX8 50 (lI (2147483648)) ∈ big := by rw [show lI (2147483648) = (2147483648) by decide]; exact lc_X8_50
theorem lcL_X8_52 : Cond.constantLong RX8 52 (lI (65536)) ∈ big := by rw [show lI (65536) = (65536) by decide]; exact lc_X8_52
/-- Arrays.fill -/
def filF {α : Type} (f : Nat → α) (n : Nat) (x : α) : Nat → α := fun k => if k < n then x else f k
theorem filF_0 {α : Type} (f : Nat → α) (x : α) : filF f 0 x = f := by
  funext k
  unfold filF
  rw [if_neg (by omega)]
theorem filF_s (f : Nat → Int32) (n : Nat) (x : Int32) : upd (filF f n x) n x = filF f (n + 1) x := by
  funext k
  unfold upd filF
  by_cases h1 : k = n
  · rw [if_pos h1, if_pos (by omega)]
  · rw [if_neg h1]
    by_cases h2 : k < n
    · rw [if_pos h2, if_pos (by omega)]
    · rw [if_neg h2, if_neg (by omega)]
theorem filF_sL (f : Nat → Int64) (n : Nat) (x : Int64) : vp_updL (filF f n x) n x = filF f (n + 1) x := by
  funext k
  unfold vp_updL filF
  by_cases h1 : k = n
  · rw [if_pos h1, if_pos (by omega)]
  · rw [if_neg h1]
    by_cases h2 : k < n
    · rw [if_pos h2, if_pos (by omega)]
    · rw [if_neg h2, if_neg (by omega)]
theorem hp_get {h : Hp} {a : Nat} {e : va_E} : hp h a e a = some e := hp_eq h a e
theorem c_fillI {v : Ev} {h : Hp} {top a n : Nat} {f : Nat → Int32} {x : Int32} (ha : h a = some (aI v n f)) (hn : n ≤ 65536) : Cal v mJ7_fill_53178 1 0 0 [.ref a, .int x] h top (pV (hp h a (aI v n (filF f n x))) top) noX := by
  refine Cal.ofJ (by decide +kernel) rfl (Nat.le_of_ble_eq_true rfl) fun hz0 => ?_
  refine r_ls [some (.ref a), some (.int x), none, none] rfl ?_
  refine r_iconst (pc := 0) (w := nI 0) (tJ7_fill_53178.at 0 rfl) (by decide) ?_
  refine r_istore_n (pc := 1) (i := 2) (tJ7_fill_53178.at 1 rfl) rfl (by decide) ?_
  refine r_aload_n (pc := 2) (i := 0) (tJ7_fill_53178.at 2 rfl) rfl rfl ?_
  refine r_alenI (pc := 3) (tJ7_fill_53178.at 3 rfl) (ha) ?_
  refine r_istore_n (pc := 4) (i := 3) (tJ7_fill_53178.at 4 rfl) rfl (by decide) ?_
  refine r_eq (h2 := hp h a (aI v n (filF f 0 x))) (by rw [filF_0, hp_id ha]) rfl ?_
  refine down (n := n) (P := fun u => J v mJ7_fill_53178 (rmOf 1 0 0) (KM v (pV (hp h a (aI v n (filF f n x))) top) noX 0 0) top 0 0 (hp h a (aI v n (filF f u x))) top 5 [some (.ref a), some (.int x), some (.int (nI u)), some (.int (nI n))] []) ?_ ?_ 0 (by omega)
  · refine r_iload_n (pc := 5) (i := 2) (tJ7_fill_53178.at 5 rfl) rfl rfl ?_
    refine r_iload_n (pc := 6) (i := 3) (tJ7_fill_53178.at 6 rfl) rfl rfl ?_
    refine r_icmp_geN (pc := 7) 20 (tJ7_fill_53178.at 7 rfl) (by decide) (by omega) (by omega) (fun _ => ?_) (fun c => by omega)
    refine r_vret (pc := 20) (tJ7_fill_53178.at 14 rfl) rfl (Nat.le_of_ble_eq_true rfl) (Nat.le_of_ble_eq_true rfl) ?_
    exact ⟨rfl, rfl, rfl⟩
  · intro u hu ih
    refine r_iload_n (pc := 5) (i := 2) (tJ7_fill_53178.at 5 rfl) rfl rfl ?_
    refine r_iload_n (pc := 6) (i := 3) (tJ7_fill_53178.at 6 rfl) rfl rfl ?_
    refine r_icmp_geN (pc := 7) 20 (tJ7_fill_53178.at 7 rfl) (by decide) (by omega) (by omega) (fun c => by omega) (fun _ => ?_)
    refine r_aload_n (pc := 10) (i := 0) (tJ7_fill_53178.at 8 rfl) rfl rfl ?_
    refine r_iload_n (pc := 11) (i := 2) (tJ7_fill_53178.at 9 rfl) rfl rfl ?_
    refine r_iload_n (pc := 12) (i := 1) (tJ7_fill_53178.at 10 rfl) rfl rfl ?_
    refine r_iast (pc := 13) (tJ7_fill_53178.at 11 rfl) hp_get u rfl hu (by omega) ?_
    rw [hp_hp, filF_s]
    first | refine r_iincN (pc := 14) (tJ7_fill_53178.at 12 rfl) rfl (by decide) ?_ | refine r_iinc (pc := 14) (tJ7_fill_53178.at 12 rfl) rfl rfl (by decide) ?_
    refine r_goto (pc := 17) 5 (tJ7_fill_53178.at 13 rfl) (by decide) ?_
    exact ih
/-- the greatest common divisor -/
theorem abs_nat {a : Int} (h1 : -9223372036854775807 ≤ a) (h2 : a ≤ 9223372036854775807) : (if (0 : Int64) < lI a then lI a else -lI a) = lI (a.natAbs : Nat) := by
  have e0 : (0 : Int64) = lI 0 := by decide
  rw [e0]
  by_cases h : (0 : Int) < a
  · rw [if_pos ((lI_lt ⟨by omega, by omega⟩ ⟨by omega, by omega⟩).mpr h)]
    congr 1
    omega
  · rw [if_neg (fun q => h ((lI_lt ⟨by omega, by omega⟩ ⟨by omega, by omega⟩).mp q)), lI_neg]
    congr 1
    omega
theorem c_gcd {v : Ev} {h : Hp} {top : Nat} {a b : Int} (ha : -9223372036854775807 ≤ a ∧ a ≤ 9223372036854775807) (hb : -9223372036854775807 ≤ b ∧ b ≤ 9223372036854775807) : Cal v mX2_commonDivisor 2 0 0 [.long (lI a), .long (lI b)] h top (pR (.long (lI (Int.gcd a b : Nat))) h top) noX := by
  refine Cal.ofJ (by decide +kernel) rfl (Nat.le_of_ble_eq_true rfl) fun hz0 => ?_
  refine r_ls [some (.long (lI a)), none, some (.long (lI b)), none, none, none, none, none, none, none, none] rfl ?_
  refine r_lload_n (pc := 0) (i := 0) (tX2_commonDivisor.at 0 rfl) rfl rfl ?_
  refine r_mabsL (pc := 1) (tX2_commonDivisor.at 1 rfl) ml_X2_24 mw_absL_s mw_math mw_absL_c (Nat.le_of_ble_eq_true rfl) (Nat.le_of_ble_eq_true rfl) (Nat.le_of_ble_eq_true rfl) (Nat.le_of_ble_eq_true rfl) ?_
  rw [abs_nat ha.1 ha.2]
  refine r_lstore (pc := 4) (i := 4) (tX2_commonDivisor.at 2 rfl) (by decide) ?_
  refine r_lload_n (pc := 6) (i := 2) (tX2_commonDivisor.at 3 rfl) rfl rfl ?_
  refine r_mabsL (pc := 7) (tX2_commonDivisor.at 4 rfl) ml_X2_24 mw_absL_s mw_math mw_absL_c (Nat.le_of_ble_eq_true rfl) (Nat.le_of_ble_eq_true rfl) (Nat.le_of_ble_eq_true rfl) (Nat.le_of_ble_eq_true rfl) ?_
  rw [abs_nat hb.1 hb.2]
  refine r_lstore (pc := 10) (i := 6) (tX2_commonDivisor.at 5 rfl) (by decide) ?_
  refine r_iconst (pc := 12) (w := nI 0) (tX2_commonDivisor.at 6 rfl) (by decide) ?_
  refine r_istore (pc := 13) (i := 8) (tX2_commonDivisor.at 7 rfl) (by decide) ?_
  have key : ∀ (k r x y : Nat), y < 2 ^ k → k ≤ 63 → r + 2 * k + 1 ≤ 1000 → x < 9223372036854775808 → y < 9223372036854775808 → Nat.gcd x y = Int.gcd a b → J v mX2_commonDivisor (rmOf 2 0 0) (KM v (pR (.long (lI (Int.gcd a b : Nat))) h top) noX 0 0) top 0 0 h top 15 [some (.long (lI a)), none, some (.long (lI b)), none, some (.long (lI x)), none, some (.long (lI y)), none, some (.int (nI r)), none, none] [] := by
    intro k
    have done : ∀ (r x : Nat), r ≤ 1000 → x < 9223372036854775808 → x = Int.gcd a b → J v mX2_commonDivisor (rmOf 2 0 0) (KM v (pR (.long (lI (Int.gcd a b : Nat))) h top) noX 0 0) top 0 0 h top 15 [some (.long (lI a)), none, some (.long (lI b)), none, some (.long (lI x)), none, some (.long (lI (0 : Nat))), none, some (.int (nI r)), none, none] [] := by
      intro r x hr hx e
      refine r_iload (pc := 15) (i := 8) (tX2_commonDivisor.at 8 rfl) rfl ?_
      refine r_sipush (pc := 17) (w := nI 1000) (tX2_commonDivisor.at 9 rfl) (by decide) ?_
      refine r_icmp_geN (pc := 20) 51 (tX2_commonDivisor.at 10 rfl) (by decide) (by omega) (by omega) (fun c => ?_) (fun c => ?_)
      · refine r_lload (pc := 51) (i := 4) (tX2_commonDivisor.at 25 rfl) rfl ?_
        refine r_lret (pc := 53) (tX2_commonDivisor.at 26 rfl) rfl (Nat.le_of_ble_eq_true rfl) (Nat.le_of_ble_eq_true rfl) ?_
        rw [← e]
        exact ⟨rfl, rfl, rfl⟩
      · refine r_lload (pc := 23) (i := 6) (tX2_commonDivisor.at 11 rfl) rfl ?_
        refine r_lconst (pc := 25) (w := lI 0) (tX2_commonDivisor.at 12 rfl) (by decide) ?_
        refine r_lc_le (pc := 26) 51 (tX2_commonDivisor.at 13 rfl) (tX2_commonDivisor.at 14 rfl) (by decide) (⟨by omega, by omega⟩) (⟨by omega, by omega⟩) (fun _ => ?_) (fun c => by omega)
        refine r_lload (pc := 51) (i := 4) (tX2_commonDivisor.at 25 rfl) rfl ?_
        refine r_lret (pc := 53) (tX2_commonDivisor.at 26 rfl) rfl (Nat.le_of_ble_eq_true rfl) (Nat.le_of_ble_eq_true rfl) ?_
        rw [← e]
        exact ⟨rfl, rfl, rfl⟩
    have one : ∀ (r x y : Nat), r < 1000 → x < 9223372036854775808 → y < 9223372036854775808 → 0 < y → J v mX2_commonDivisor (rmOf 2 0 0) (KM v (pR (.long (lI (Int.gcd a b : Nat))) h top) noX 0 0) top 0 0 h top 15 [some (.long (lI a)), none, some (.long (lI b)), none, some (.long (lI y)), none, some (.long (lI ((x % y : Nat)))), none, some (.int (nI (r + 1))), none, none] [] → J v mX2_commonDivisor (rmOf 2 0 0) (KM v (pR (.long (lI (Int.gcd a b : Nat))) h top) noX 0 0) top 0 0 h top 15 [some (.long (lI a)), none, some (.long (lI b)), none, some (.long (lI x)), none, some (.long (lI y)), none, some (.int (nI r)), none, none] [] := by
      intro r x y hr hx hy h0 kk
      refine r_iload (pc := 15) (i := 8) (tX2_commonDivisor.at 8 rfl) rfl ?_
      refine r_sipush (pc := 17) (w := nI 1000) (tX2_commonDivisor.at 9 rfl) (by decide) ?_
      refine r_icmp_geN (pc := 20) 51 (tX2_commonDivisor.at 10 rfl) (by decide) (by omega) (by omega) (fun c => by omega) (fun _ => ?_)
      refine r_lload (pc := 23) (i := 6) (tX2_commonDivisor.at 11 rfl) rfl ?_
      refine r_lconst (pc := 25) (w := lI 0) (tX2_commonDivisor.at 12 rfl) (by decide) ?_
      refine r_lc_le (pc := 26) 51 (tX2_commonDivisor.at 13 rfl) (tX2_commonDivisor.at 14 rfl) (by decide) (⟨by omega, by omega⟩) (⟨by omega, by omega⟩) (fun c => by omega) (fun _ => ?_)
      refine r_lload (pc := 30) (i := 4) (tX2_commonDivisor.at 15 rfl) rfl ?_
      refine r_lload (pc := 32) (i := 6) (tX2_commonDivisor.at 16 rfl) rfl ?_
      refine r_lremL (pc := 34) (tX2_commonDivisor.at 17 rfl) (inL_nat hx) (inL_nat hy) (by omega) ?_
      rw [show (x : Int).tmod (y : Int) = ((x % y : Nat) : Int) from (Int.ofNat_tmod x y).symm]
      refine r_lstore (pc := 35) (i := 9) (tX2_commonDivisor.at 18 rfl) (by decide) ?_
      refine r_lload (pc := 37) (i := 6) (tX2_commonDivisor.at 19 rfl) rfl ?_
      refine r_lstore (pc := 39) (i := 4) (tX2_commonDivisor.at 20 rfl) (by decide) ?_
      refine r_lload (pc := 41) (i := 9) (tX2_commonDivisor.at 21 rfl) rfl ?_
      refine r_lstore (pc := 43) (i := 6) (tX2_commonDivisor.at 22 rfl) (by decide) ?_
      first | refine r_iincN (pc := 45) (tX2_commonDivisor.at 23 rfl) rfl (by decide) ?_ | refine r_iinc (pc := 45) (tX2_commonDivisor.at 23 rfl) rfl rfl (by decide) ?_
      refine r_goto (pc := 48) 15 (tX2_commonDivisor.at 24 rfl) (by decide) ?_
      exact r_sub _ (fun i w hw => by
        match i, hw with
        | 0, hw => exact hw
        | 1, hw => exact hw
        | 2, hw => exact hw
        | 3, hw => exact hw
        | 4, hw => exact hw
        | 5, hw => exact hw
        | 6, hw => exact hw
        | 7, hw => exact hw
        | 8, hw => exact hw
        | 9, hw => cases hw
        | 10, hw => cases hw) kk
    induction k with
    | zero =>
      intro r x y hy _ hr hx _ e
      have h0 : y = 0 := by simpa using hy
      subst h0
      exact done r x (by omega) hx (by simpa using e)
    | succ k ih =>
      intro r x y hy hk hr hx hy2 e
      by_cases h0 : y = 0
      · subst h0
        exact done r x (by omega) hx (by simpa using e)
      have e1 : Nat.gcd y (x % y) = Int.gcd a b := by rw [← e, Nat.gcd_comm x y, Nat.gcd_rec y x, Nat.gcd_comm]
      have l1 : x % y < y := Nat.mod_lt _ (by omega)
      refine one r x y (by omega) hx hy2 (by omega) ?_
      by_cases h1 : x % y = 0
      · rw [h1] at e1 ⊢
        exact done (r + 1) y (by omega) hy2 (by simpa using e1)
      refine one (r + 1) y (x % y) (by omega) hy2 (by omega) (by omega) ?_
      have l2 : y % (x % y) < x % y := Nat.mod_lt _ (by omega)
      have l3 : y % (x % y) + (x % y) ≤ y := by
        have := Nat.mod_add_div y (x % y)
        have h3 : 1 ≤ y / (x % y) := Nat.div_pos (by omega) (by omega)
        have h4 : x % y * 1 ≤ x % y * (y / (x % y)) := Nat.mul_le_mul_left _ h3
        omega
      exact ih (r + 1 + 1) (x % y) (y % (x % y)) (by rw [Nat.pow_succ] at hy; omega) (by omega) (by omega) (by omega) (by omega) (by rw [← e1, Nat.gcd_comm y (x % y), Nat.gcd_rec (x % y) y, Nat.gcd_comm])
  exact key 63 0 a.natAbs b.natAbs (by omega) (by omega) (by omega) (by omega) (by omega) rfl
/-- Fraction -/
def frE (a b : Int) : va_E := ob 2 [.long (lI a), .long (lI b)]
def rdA (n d : Int) : Int := n.tdiv (Int.gcd n d)
def rdB (n d : Int) : Int := d.tdiv (Int.gcd n d)
theorem c_frInit {v : Ev} {h : Hp} {top q : Nat} {fs : List Value} (hq : h q = some (ob 2 fs)) (hf : fs.length = 2) : Cal v mX2_init 1 0 0 [.ref q] h top (pV (hp h q (frE 0 1)) top) noX := by
  obtain ⟨x, y, rfl⟩ : ∃ x y, fs = [x, y] := by
    match fs, hf with
    | [x, y], _ => exact ⟨x, y, rfl⟩
  refine Cal.ofJ (by decide +kernel) rfl (Nat.le_of_ble_eq_true rfl) fun hz0 => ?_
  refine r_ls [some (.ref q)] rfl ?_
  refine r_aload_n (pc := 0) (i := 0) (tX2_init.at 0 rfl) rfl rfl ?_
  refine r_objInit (pc := 1) (tX2_init.at 1 rfl) ml_X2_1 oi_inst oi_code (Nat.le_of_ble_eq_true rfl) (Nat.le_of_ble_eq_true rfl) ?_
  refine r_aload_n (pc := 4) (i := 0) (tX2_init.at 2 rfl) rfl rfl ?_
  refine r_lconst (pc := 5) (w := lI 0) (tX2_init.at 3 rfl) (by decide) ?_
  refine r_put (pc := 6) (tX2_init.at 4 rfl) pf_X2_7 (hq) (Nat.le_of_ble_eq_true rfl) (rfl) (rfl) ?_
  refine r_aload_n (pc := 9) (i := 0) (tX2_init.at 5 rfl) rfl rfl ?_
  refine r_lconst (pc := 10) (w := lI 1) (tX2_init.at 6 rfl) (by decide) ?_
  refine r_put (pc := 11) (tX2_init.at 7 rfl) pf_X2_13 (hp_get) (Nat.le_of_ble_eq_true rfl) (rfl) (rfl) ?_
  rw [hp_hp]
  refine r_vret (pc := 14) (tX2_init.at 8 rfl) rfl (Nat.le_of_ble_eq_true rfl) (Nat.le_of_ble_eq_true rfl) ?_
  exact ⟨rfl, rfl, rfl⟩
theorem c_frPut {v : Ev} {h : Hp} {top q : Nat} {a b n d : Int} (hq : h q = some (frE a b)) (hn : -9223372036854775807 ≤ n ∧ n ≤ 9223372036854775807) (hd : 0 < d ∧ d ≤ 9223372036854775807) : Cal v mX2_put 3 0 0 [.ref q, .long (lI n), .long (lI d)] h top (pV (hp h q (frE (rdA n d) (rdB n d))) top) noX := by
  refine Cal.ofJ (by decide +kernel) rfl (Nat.le_of_ble_eq_true rfl) fun hz0 => ?_
  refine r_ls [some (.ref q), some (.long (lI n)), none, some (.long (lI d)), none, none, none] rfl ?_
  have hg : 0 < Int.gcd n d := Int.gcd_pos_of_ne_zero_right n (by omega)
  have hg2 : Int.gcd n d ≤ 9223372036854775807 := by
    have h1 : Nat.gcd n.natAbs d.natAbs ≤ d.natAbs := Nat.gcd_le_right _ (by omega)
    have h2 : Int.gcd n d = Nat.gcd n.natAbs d.natAbs := rfl
    omega
  refine r_lload_n (pc := 0) (i := 1) (tX2_put.at 0 rfl) rfl rfl ?_
  refine r_lload_n (pc := 1) (i := 3) (tX2_put.at 1 rfl) rfl rfl ?_
  refine r_callS (M' := mX2_commonDivisor) (pc := 2) (tX2_put.at 2 rfl) ml_X2_16 rfl mw_X2_commonDivisor ⟨by decide, by decide⟩ (c_gcd hn (b := d) (by omega)) rfl rfl (Nat.le_of_ble_eq_true rfl) (Nat.le_of_ble_eq_true rfl) (Nat.le_of_ble_eq_true rfl) ?_
  rintro _ _ _ ⟨rfl, rfl, rfl⟩
  refine r_lstore (pc := 5) (i := 5) (tX2_put.at 3 rfl) (by decide) ?_
  refine r_lload_n (pc := 7) (i := 3) (tX2_put.at 4 rfl) rfl rfl ?_
  refine r_lconst (pc := 8) (w := lI 0) (tX2_put.at 5 rfl) (by decide) ?_
  refine r_lc_le (pc := 9) 39 (tX2_put.at 6 rfl) (tX2_put.at 7 rfl) (by decide) (⟨by omega, by omega⟩) (⟨by omega, by omega⟩) (fun c => by omega) (fun _ => ?_)
  refine r_lload (pc := 13) (i := 5) (tX2_put.at 8 rfl) rfl ?_
  refine r_lconst (pc := 15) (w := lI 0) (tX2_put.at 9 rfl) (by decide) ?_
  refine r_lc_le (pc := 16) 39 (tX2_put.at 10 rfl) (tX2_put.at 11 rfl) (by decide) (⟨by omega, by omega⟩) (⟨by omega, by omega⟩) (fun c => by omega) (fun _ => ?_)
  refine r_aload_n (pc := 20) (i := 0) (tX2_put.at 12 rfl) rfl rfl ?_
  refine r_lload_n (pc := 21) (i := 1) (tX2_put.at 13 rfl) rfl rfl ?_
  refine r_lload (pc := 22) (i := 5) (tX2_put.at 14 rfl) rfl ?_
  refine r_ldivL (pc := 24) (tX2_put.at 15 rfl) (⟨by omega, by omega⟩) (⟨by omega, by omega⟩) (by omega) ?_
  refine r_put (pc := 25) (tX2_put.at 16 rfl) pf_X2_7 (hq) (Nat.le_of_ble_eq_true rfl) (rfl) (rfl) ?_
  refine r_aload_n (pc := 28) (i := 0) (tX2_put.at 17 rfl) rfl rfl ?_
  refine r_lload_n (pc := 29) (i := 3) (tX2_put.at 18 rfl) rfl rfl ?_
  refine r_lload (pc := 30) (i := 5) (tX2_put.at 19 rfl) rfl ?_
  refine r_ldivL (pc := 32) (tX2_put.at 20 rfl) (⟨by omega, by omega⟩) (⟨by omega, by omega⟩) (by omega) ?_
  refine r_put (pc := 33) (tX2_put.at 21 rfl) pf_X2_13 (hp_get) (Nat.le_of_ble_eq_true rfl) (rfl) (rfl) ?_
  refine r_goto (pc := 36) 49 (tX2_put.at 22 rfl) (by decide) ?_
  rw [hp_hp]
  refine r_vret (pc := 49) (tX2_put.at 29 rfl) rfl (Nat.le_of_ble_eq_true rfl) (Nat.le_of_ble_eq_true rfl) ?_
  exact ⟨rfl, rfl, rfl⟩
theorem c_frPart {v : Ev} {h : Hp} {top q : Nat} {a b : Int} (hq : h q = some (frE a b)) {x : Nat} (hx : x < 2147483648) : Cal v mX2_part 1 0 0 [.ref q, .int (nI x)] h top (pR (.long (lI (if x = 0 then a else b))) h top) noX := by
  refine Cal.ofJ (by decide +kernel) rfl (Nat.le_of_ble_eq_true rfl) fun hz0 => ?_
  refine r_ls [some (.ref q), some (.int (nI x))] rfl ?_
  refine r_iload_n (pc := 0) (i := 1) (tX2_part.at 0 rfl) rfl rfl ?_
  refine r_if_eqN (pc := 1) 11 (tX2_part.at 1 rfl) (by decide) (by omega) (fun c => ?_) (fun c => ?_)
  · rw [if_pos c]
    refine r_aload_n (pc := 11) (i := 0) (tX2_part.at 5 rfl) rfl rfl ?_
    refine r_get (pc := 12) (tX2_part.at 6 rfl) gf_X2_7 (hq) rfl ?_
    refine r_lret (pc := 15) (tX2_part.at 7 rfl) rfl (Nat.le_of_ble_eq_true rfl) (Nat.le_of_ble_eq_true rfl) ?_
    exact ⟨rfl, rfl, rfl⟩
  · rw [if_neg c]
    refine r_aload_n (pc := 4) (i := 0) (tX2_part.at 2 rfl) rfl rfl ?_
    refine r_get (pc := 5) (tX2_part.at 3 rfl) gf_X2_13 (hq) rfl ?_
    refine r_goto (pc := 8) 15 (tX2_part.at 4 rfl) (by decide) ?_
    refine r_lret (pc := 15) (tX2_part.at 7 rfl) rfl (Nat.le_of_ble_eq_true rfl) (Nat.le_of_ble_eq_true rfl) ?_
    exact ⟨rfl, rfl, rfl⟩
/-- Graph.stepChance: what it puts -/
def chA (W : Nat → Nat) (n x y : Nat) : Int := if degN W x n = 0 then rdA (if x = y then 1 else 0) 1 else rdA (W (x * 6 + y) : Nat) (degN W x n : Nat)
def chB (W : Nat → Nat) (n x y : Nat) : Int := if degN W x n = 0 then rdB (if x = y then 1 else 0) 1 else rdB (W (x * 6 + y) : Nat) (degN W x n : Nat)
theorem c_step {v : Ev} {h : Hp} {top g q : Nat} {G : GT} {a b : Int} (hg : isG v h g G) (hq : h q = some (frE a b)) (hn : G.n ≤ 6) {x y : Nat} (hx : x < 6) (hy : y < 6) (hW : ∀ k, k < 36 → G.W k ≤ 1000000) : Cal v mX3_stepChance 4 0 0 [.ref g, .int (nI x), .int (nI y), .ref q] h top (pV (hp h q (frE (chA G.W G.n x y) (chB G.W G.n x y))) top) noX := by
  have hdg : degN G.W x G.n ≤ G.n * 1000000 := sN_le G.n (fun k hk => hW _ (by omega))
  have hd2 : degN G.W x G.n < 2147483648 := by
    have : G.n * 1000000 ≤ 6 * 1000000 := Nat.mul_le_mul_right _ hn
    omega
  have hw := hW (x * 6 + y) (by omega)
  refine Cal.ofJ (by decide +kernel) rfl (Nat.le_of_ble_eq_true rfl) fun hz0 => ?_
  refine r_ls [some (.ref g), some (.int (nI x)), some (.int (nI y)), some (.ref q), none] rfl ?_
  refine r_aload_n (pc := 0) (i := 0) (tX3_stepChance.at 0 rfl) rfl rfl ?_
  refine r_iload_n (pc := 1) (i := 1) (tX3_stepChance.at 1 rfl) rfl rfl ?_
  refine r_callV (M' := mX3_sumOfWeights) (pc := 2) (tX3_stepChance.at 2 rfl) ml_X3_81 rfl mw_X3_sumOfWeights ⟨by decide, by decide⟩ (hg.1) rfl rfl (c_sow hg hn hx) rfl rfl (Nat.le_of_ble_eq_true rfl) (Nat.le_of_ble_eq_true rfl) (Nat.le_of_ble_eq_true rfl) ?_
  rintro _ _ _ ⟨rfl, rfl, rfl⟩
  refine r_istore (pc := 5) (i := 4) (tX3_stepChance.at 3 rfl) (by decide) ?_
  refine r_iload (pc := 7) (i := 4) (tX3_stepChance.at 4 rfl) rfl ?_
  refine r_if_leN (pc := 9) 29 (tX3_stepChance.at 5 rfl) (by decide) (by omega) (fun c => ?_) (fun c => ?_)
  · have e1 : chA G.W G.n x y = rdA (if x = y then 1 else 0) 1 := by unfold chA; rw [if_pos c]
    have e2 : chB G.W G.n x y = rdB (if x = y then 1 else 0) 1 := by unfold chB; rw [if_pos c]
    rw [e1, e2]
    refine r_aload_n (pc := 29) (i := 3) (tX3_stepChance.at 16 rfl) rfl rfl ?_
    refine r_iload_n (pc := 30) (i := 1) (tX3_stepChance.at 17 rfl) rfl rfl ?_
    refine r_iload_n (pc := 31) (i := 2) (tX3_stepChance.at 18 rfl) rfl rfl ?_
    refine r_icmp_neN (pc := 32) 39 (tX3_stepChance.at 19 rfl) (by decide) (by omega) (by omega) (fun c2 => ?_) (fun c2 => ?_)
    · rw [if_neg c2]
      refine r_lconst (pc := 39) (w := lI 0) (tX3_stepChance.at 22 rfl) (by decide) ?_
      refine r_lconst (pc := 40) (w := lI 1) (tX3_stepChance.at 23 rfl) (by decide) ?_
      refine r_callV (M' := mX2_put) (pc := 41) (tX3_stepChance.at 24 rfl) ml_X3_84 rfl mw_X2_put ⟨by decide, by decide⟩ (hq) rfl rfl (c_frPut (n := 0) (d := 1) hq (by omega) (by omega)) rfl rfl (Nat.le_of_ble_eq_true rfl) (Nat.le_of_ble_eq_true rfl) (Nat.le_of_ble_eq_true rfl) ?_
      rintro _ _ _ ⟨rfl, rfl, rfl⟩
      refine r_vret (pc := 44) (tX3_stepChance.at 25 rfl) rfl (Nat.le_of_ble_eq_true rfl) (Nat.le_of_ble_eq_true rfl) ?_
      exact ⟨rfl, rfl, rfl⟩
    · rw [if_pos c2]
      refine r_lconst (pc := 35) (w := lI 1) (tX3_stepChance.at 20 rfl) (by decide) ?_
      refine r_goto (pc := 36) 40 (tX3_stepChance.at 21 rfl) (by decide) ?_
      refine r_lconst (pc := 40) (w := lI 1) (tX3_stepChance.at 23 rfl) (by decide) ?_
      refine r_callV (M' := mX2_put) (pc := 41) (tX3_stepChance.at 24 rfl) ml_X3_84 rfl mw_X2_put ⟨by decide, by decide⟩ (hq) rfl rfl (c_frPut (n := 1) (d := 1) hq (by omega) (by omega)) rfl rfl (Nat.le_of_ble_eq_true rfl) (Nat.le_of_ble_eq_true rfl) (Nat.le_of_ble_eq_true rfl) ?_
      rintro _ _ _ ⟨rfl, rfl, rfl⟩
      refine r_vret (pc := 44) (tX3_stepChance.at 25 rfl) rfl (Nat.le_of_ble_eq_true rfl) (Nat.le_of_ble_eq_true rfl) ?_
      exact ⟨rfl, rfl, rfl⟩
  · have e1 : chA G.W G.n x y = rdA (G.W (x * 6 + y) : Nat) (degN G.W x G.n : Nat) := by unfold chA; rw [if_neg (by omega)]
    have e2 : chB G.W G.n x y = rdB (G.W (x * 6 + y) : Nat) (degN G.W x G.n : Nat) := by unfold chB; rw [if_neg (by omega)]
    rw [e1, e2]
    refine r_aload_n (pc := 12) (i := 3) (tX3_stepChance.at 6 rfl) rfl rfl ?_
    refine r_aload_n (pc := 13) (i := 0) (tX3_stepChance.at 7 rfl) rfl rfl ?_
    refine r_iload_n (pc := 14) (i := 1) (tX3_stepChance.at 8 rfl) rfl rfl ?_
    refine r_iload_n (pc := 15) (i := 2) (tX3_stepChance.at 9 rfl) rfl rfl ?_
    refine r_callV (M' := mX3_weightBetween) (pc := 16) (tX3_stepChance.at 10 rfl) ml_X3_71 rfl mw_X3_weightBetween ⟨by decide, by decide⟩ (hg.1) rfl rfl (c_wb hg (a := x) (b := y) (by omega)) rfl rfl (Nat.le_of_ble_eq_true rfl) (Nat.le_of_ble_eq_true rfl) (Nat.le_of_ble_eq_true rfl) ?_
    rintro _ _ _ ⟨rfl, rfl, rfl⟩
    first | refine r_i2lN (pc := 19) (tX3_stepChance.at 11 rfl) (by omega) ?_ | refine r_i2l (pc := 19) (tX3_stepChance.at 11 rfl) ?_
    refine r_iload (pc := 20) (i := 4) (tX3_stepChance.at 12 rfl) rfl ?_
    first | refine r_i2lN (pc := 22) (tX3_stepChance.at 13 rfl) (by omega) ?_ | refine r_i2l (pc := 22) (tX3_stepChance.at 13 rfl) ?_
    refine r_callV (M' := mX2_put) (pc := 23) (tX3_stepChance.at 14 rfl) ml_X3_84 rfl mw_X2_put ⟨by decide, by decide⟩ (hq) rfl rfl (c_frPut (n := (G.W (x * 6 + y) : Nat)) (d := (degN G.W x G.n : Nat)) hq (by omega) (by omega)) rfl rfl (Nat.le_of_ble_eq_true rfl) (Nat.le_of_ble_eq_true rfl) (Nat.le_of_ble_eq_true rfl) ?_
    rintro _ _ _ ⟨rfl, rfl, rfl⟩
    refine r_goto (pc := 26) 44 (tX3_stepChance.at 15 rfl) (by decide) ?_
    refine r_vret (pc := 44) (tX3_stepChance.at 25 rfl) rfl (Nat.le_of_ble_eq_true rfl) (Nat.le_of_ble_eq_true rfl) ?_
    exact ⟨rfl, rfl, rfl⟩

