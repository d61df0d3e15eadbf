/-! ===== Costs ===== -/
section
variable {v : Ev} {M : Md} {R : Room} {K : List Frame → Array Value → State → State → Prop} {t0 cells slots : Nat} {h : Hp} {top pc : Nat} {ls : List (Option Value)} {st : List Value}
theorem r_iaddZ {a b : Int} (d : decode M.2.1 pc = .ok (.iadd, 1)) (k : J v M R K t0 cells slots h top (pc + 1) ls (.int (zI (a + b)) :: st)) : J v M R K t0 cells slots h top pc ls (.int (zI b) :: .int (zI a) :: st) := r_iadd d (by rw [zI_add]; exact k)
theorem r_isubZ {a b : Int} (d : decode M.2.1 pc = .ok (.isub, 1)) (k : J v M R K t0 cells slots h top (pc + 1) ls (.int (zI (a - b)) :: st)) : J v M R K t0 cells slots h top pc ls (.int (zI b) :: .int (zI a) :: st) := r_isub d (by rw [zI_sub]; exact k)
theorem r_isubN {a b : Nat} (d : decode M.2.1 pc = .ok (.isub, 1)) (hb : b ≤ a) (k : J v M R K t0 cells slots h top (pc + 1) ls (.int (nI (a - b)) :: st)) : J v M R K t0 cells slots h top pc ls (.int (nI b) :: .int (nI a) :: st) := r_isub d (by rw [nI_subZ hb]; exact k)
theorem r_imulZ {a b : Int} (d : decode M.2.1 pc = .ok (.imul, 1)) (k : J v M R K t0 cells slots h top (pc + 1) ls (.int (zI (a * b)) :: st)) : J v M R K t0 cells slots h top pc ls (.int (zI b) :: .int (zI a) :: st) := r_imul d (by rw [zI_mul]; exact k)
theorem r_inegZ {a : Int} (d : decode M.2.1 pc = .ok (.ineg, 1)) (k : J v M R K t0 cells slots h top (pc + 1) ls (.int (zI (-a)) :: st)) : J v M R K t0 cells slots h top pc ls (.int (zI a) :: st) := r_ineg d (by rw [zI_neg]; exact k)
theorem r_i2lZ {a : Int} (d : decode M.2.1 pc = .ok (.i2l, 1)) (ha : inI a) (k : J v M R K t0 cells slots h top (pc + 1) ls (.long (lI a) :: st)) : J v M R K t0 cells slots h top pc ls (.int (zI a) :: st) := r_i2l d (by rw [zI_toInt64 ha]; exact k)
theorem r_l2iZ {a : Int} (d : decode M.2.1 pc = .ok (.l2i, 1)) (k : J v M R K t0 cells slots h top (pc + 1) ls (.int (zI a) :: st)) : J v M R K t0 cells slots h top pc ls (.long (lI a) :: st) := r_l2i d (by rw [lI_toInt32Z]; exact k)
theorem r_idecN {i u : Nat} (d : decode M.2.1 pc = .ok (.iinc i (-1), 3)) (hi : ls[i]? = some (some (.int (nI (u + 1))))) (hl : i < M.2.2.1) (k : J v M R K t0 cells slots h top (pc + 3) (ls1 ls i (.int (nI u))) st) : J v M R K t0 cells slots h top pc ls st := r_iinc d hi (show nI (u + 1) + Int32.ofInt (-1) = nI u by rw [← zI_nat, show Int32.ofInt (-1) = zI (-1) from rfl, zI_add, ← zI_nat]; congr 1; omega) hl k
theorem r_mminLI {idx : Nat} {a b : Int} (d : decode M.2.1 pc = .ok (.invokestatic idx, 3)) (w1 : Cond.methodLink M.1.cls idx Lib.MathLoose.min_long.x ∈ big) (w2 : Cond.static Lib.MathLoose.min_long.x ∈ big) (w3 : Cond.initialized "java/lang/Math" ∈ big) (w4 : Cond.code Lib.MathLoose.min_long.x Lib.MathLoose.min_long.code 4 (some .long) ∈ big) (hf : 1 ≤ R.frames) (hl2 : (st.map fun w => w.category).sum + 15 ≤ R.locals) (hc : cells ≤ R.cells) (hs : slots ≤ R.slots) (ha : inL a) (hb : inL b) (kk : J v M R K t0 cells slots h top (pc + 3) ls (.long (lI (min a b)) :: st)) : J v M R K t0 cells slots h top pc ls (.long (lI b) :: .long (lI a) :: st) := by
  refine r_mminL d w1 w2 w3 w4 hf hl2 hc hs ?_
  by_cases q : b < a
  · rw [if_pos ((lI_lt hb ha).mpr q)]
    rw [Int.min_eq_right (by omega)] at kk
    exact kk
  · rw [if_neg (fun z => q ((lI_lt hb ha).mp z))]
    rw [Int.min_eq_left (by omega)] at kk
    exact kk
theorem r_mmaxLI {idx : Nat} {a b : Int} (d : decode M.2.1 pc = .ok (.invokestatic idx, 3)) (w1 : Cond.methodLink M.1.cls idx Lib.MathLoose.max_long.x ∈ big) (w2 : Cond.static Lib.MathLoose.max_long.x ∈ big) (w3 : Cond.initialized "java/lang/Math" ∈ big) (w4 : Cond.code Lib.MathLoose.max_long.x Lib.MathLoose.max_long.code 4 (some .long) ∈ big) (hf : 1 ≤ R.frames) (hl2 : (st.map fun w => w.category).sum + 15 ≤ R.locals) (hc : cells ≤ R.cells) (hs : slots ≤ R.slots) (ha : inL a) (hb : inL b) (kk : J v M R K t0 cells slots h top (pc + 3) ls (.long (lI (max a b)) :: st)) : J v M R K t0 cells slots h top pc ls (.long (lI b) :: .long (lI a) :: st) := by
  refine r_mmaxL d w1 w2 w3 w4 hf hl2 hc hs ?_
  by_cases q : b < a
  · rw [if_pos ((lI_lt hb ha).mpr q)]
    rw [Int.max_eq_left (by omega)] at kk
    exact kk
  · rw [if_neg (fun z => q ((lI_lt hb ha).mp z))]
    rw [Int.max_eq_right (by omega)] at kk
    exact kk
end
def sF (s : Nat → Int) : Nat → Int32 := fun i => zI (s i)
def upZ (f : Nat → Int) (i : Nat) (x : Int) : Nat → Int := fun k => if k = i then x else f k
theorem upZ_eq (f : Nat → Int) (i : Nat) (x : Int) : upZ f i x i = x := if_pos rfl
theorem upZ_ne (f : Nat → Int) {i k : Nat} (x : Int) (n : k ≠ i) : upZ f i x k = f k := if_neg n
theorem upd_sF (f : Nat → Int) (i : Nat) (x : Int) : upd (sF f) i (zI x) = sF (upZ f i x) := by
  funext k
  unfold upd sF upZ
  split <;> rfl
/-- codes of a cost: COST_ONE or a row of their own -/
def isCode (v : Ev) (h : Hp) (F n : Nat) (c : Nat → Int) : Prop := (F = oA v 0 ∧ n = 1 ∧ c 0 = 1) ∨ h F = some (aI v n (sF c))
theorem isCode.put {v : Ev} {h : Hp} {F n a : Nat} {e : va_E} {c : Nat → Int} (hc : isCode v h F n c) (ha : F ≠ a) : isCode v (hp h a e) F n c := hc.imp id (fun q => (hp_ne h e ha).trans q)
section
variable {v : Ev} {M : Md} {R : Room} {K : List Frame → Array Value → State → State → Prop} {t0 cells slots : Nat} {h : Hp} {top pc : Nat} {ls : List (Option Value)} {st : List Value}
theorem r_ialdC {F n : Nat} {c : Nat → Int} (d : decode M.2.1 pc = .ok (.iaload, 1)) (hc : isCode v h F n c) (i : Nat) (hi : i < n) (hN : n ≤ 2147483647) (kk : J v M R K t0 cells slots h top (pc + 1) ls (.int (zI (c i)) :: st)) : J v M R K t0 cells slots h top pc ls (.int (nI i) :: .ref F :: st) := by
  rcases hc with ⟨h1, h2, h3⟩ | h1
  · subst h1; subst h2
    have hi0 : i = 0 := by omega
    subst hi0
    rw [h3] at kk
    exact r_iald1 d rfl kk
  · exact r_iald d h1 i rfl hi hN kk
theorem r_alenC {F n : Nat} {c : Nat → Int} (d : decode M.2.1 pc = .ok (.arraylength, 1)) (hc : isCode v h F n c) (kk : J v M R K t0 cells slots h top (pc + 1) ls (.int (nI n) :: st)) : J v M R K t0 cells slots h top pc ls (.ref F :: st) := by
  rcases hc with ⟨h1, h2, h3⟩ | h1
  · subst h1; subst h2
    exact r_alen1 d kk
  · exact r_alenI d h1 kk
end
def clM (x : Int) : Int := max (-1000000) (min 1000000 x)
theorem clM_b (x : Int) : -1000000 ≤ clM x ∧ clM x ≤ 1000000 := by unfold clM; omega
def opI (c l r : Int) : Int := if c = -4 then l + r else if c = -5 then l - r else if c = -6 then l * r else if r = 0 then 0 else l.tdiv r
def opd (c w x y : Int) : Int := if c = -1 then w else if c = -2 then x else if c = -3 then y else c
theorem tdiv_b {l r B : Int} (h1 : -B ≤ l) (h2 : l ≤ B) : -B ≤ l.tdiv r ∧ l.tdiv r ≤ B := by
  have h3 : (l.tdiv r).natAbs ≤ l.natAbs := by rw [Int.natAbs_tdiv]; exact Nat.div_le_self _ _
  omega
theorem mul_b {l r B : Int} (h1 : -B ≤ l) (h2 : l ≤ B) (h3 : -B ≤ r) (h4 : r ≤ B) : -(B * B) ≤ l * r ∧ l * r ≤ B * B := by
  have h5 : (l * r).natAbs ≤ B.natAbs * B.natAbs := by rw [Int.natAbs_mul]; exact Nat.mul_le_mul (by omega) (by omega)
  have h6 : ((B.natAbs * B.natAbs : Nat) : Int) = B * B := by rw [Int.natCast_mul]; rw [show ((B.natAbs : Nat) : Int) = B by omega]
  omega
theorem c_opnd {v : Ev} {h : Hp} {top w x y : Nat} {c : Int} (hc : -7 ≤ c ∧ c ≤ 1000000) : Cal v mX0_operand 1 0 0 [.int (zI c), .int (nI w), .int (nI x), .int (nI y)] h top (pR (.int (zI (opd c w x y))) h top) noX := by
  refine Cal.ofJ (by decide +kernel) rfl (Nat.le_of_ble_eq_true rfl) fun hz0 => ?_
  refine r_ls [some (.int (zI c)), some (.int (nI w)), some (.int (nI x)), some (.int (nI y))] rfl ?_
  refine r_iload_n (pc := 0) (i := 0) (tX0_operand.at 0 rfl) rfl rfl ?_
  have ei : (zI c).toInt = c := zI_toInt ⟨by omega, by omega⟩
  by_cases h1 : c = -1
  · subst h1
    refine r_swIn (pc := 1) (off := 27) 28 (tX0_operand.at 1 rfl) (by decide) (by decide) (by decide) (by decide) ?_
    refine r_iload_n (pc := 28) (i := 1) (tX0_operand.at 2 rfl) rfl rfl ?_
    refine r_iret (pc := 29) (tX0_operand.at 3 rfl) rfl (Nat.le_of_ble_eq_true rfl) (Nat.le_of_ble_eq_true rfl) ?_
    exact ⟨by rw [← zI_nat]; rfl, rfl, rfl⟩
  by_cases h2 : c = -2
  · subst h2
    refine r_swIn (pc := 1) (off := 29) 30 (tX0_operand.at 1 rfl) (by decide) (by decide) (by decide) (by decide) ?_
    refine r_iload_n (pc := 30) (i := 2) (tX0_operand.at 4 rfl) rfl rfl ?_
    refine r_iret (pc := 31) (tX0_operand.at 5 rfl) rfl (Nat.le_of_ble_eq_true rfl) (Nat.le_of_ble_eq_true rfl) ?_
    exact ⟨by rw [← zI_nat]; rfl, rfl, rfl⟩
  by_cases h3 : c = -3
  · subst h3
    refine r_swIn (pc := 1) (off := 31) 32 (tX0_operand.at 1 rfl) (by decide) (by decide) (by decide) (by decide) ?_
    refine r_iload_n (pc := 32) (i := 3) (tX0_operand.at 6 rfl) rfl rfl ?_
    refine r_iret (pc := 33) (tX0_operand.at 7 rfl) rfl (Nat.le_of_ble_eq_true rfl) (Nat.le_of_ble_eq_true rfl) ?_
    exact ⟨by rw [← zI_nat]; rfl, rfl, rfl⟩
  refine r_swOut (pc := 1) 34 (tX0_operand.at 1 rfl) (by rw [ei]; omega) (by decide) ?_
  refine r_iload_n (pc := 34) (i := 0) (tX0_operand.at 8 rfl) rfl rfl ?_
  refine r_iret (pc := 35) (tX0_operand.at 9 rfl) rfl (Nat.le_of_ble_eq_true rfl) (Nat.le_of_ble_eq_true rfl) ?_
  exact ⟨by rw [opd, if_neg h1, if_neg h2, if_neg h3], rfl, rfl⟩
theorem c_opr {v : Ev} {h : Hp} {top : Nat} {c l r : Int} (hc : -7 ≤ c ∧ c ≤ -4) (hl : -1000000 ≤ l ∧ l ≤ 1000000) (hr : -1000000 ≤ r ∧ r ≤ 1000000) : Cal v mX0_operate 2 0 0 [.int (zI c), .long (lI l), .long (lI r)] h top (pR (.int (zI (clM (opI c l r)))) h top) noX := by
  have hm := mul_b hl.1 hl.2 hr.1 hr.2
  have hd := tdiv_b (r := r) hl.1 hl.2
  refine Cal.ofJ (by decide +kernel) rfl (Nat.le_of_ble_eq_true rfl) fun hz0 => ?_
  refine r_ls [some (.int (zI c)), some (.long (lI l)), none, some (.long (lI r)), none, none, none] rfl ?_
  have fin : ∀ z : Int, inL z → opI c l r = z → J v mX0_operate (rmOf 2 0 0) (KM v (pR (.int (zI (clM (opI c l r)))) h top) noX 0 0) top 0 0 h top 57 [some (.int (zI c)), some (.long (lI l)), none, some (.long (lI r)), none, some (.long (lI z)), none] [] := by
    intro z hz hq
    have hz1 := hz.1
    have hz2 := hz.2
    refine r_ldc2 (pc := 57) (tX0_operate.at 34 rfl) lcL_X0_67 ?_
    refine r_ldc2 (pc := 60) (tX0_operate.at 35 rfl) lcL_X0_69 ?_
    refine r_lload (pc := 63) (i := 5) (tX0_operate.at 36 rfl) rfl ?_
    first | refine r_mminLI (pc := 65) (tX0_operate.at 37 rfl) ml_X0_71 mw_minL_s mw_math mw_minL_c (Nat.le_of_ble_eq_true rfl) (Nat.le_of_ble_eq_true rfl) (Nat.le_of_ble_eq_true rfl) (Nat.le_of_ble_eq_true rfl) ⟨by omega, by omega⟩ ⟨by omega, by omega⟩ ?_ | refine r_mminL (pc := 65) (tX0_operate.at 37 rfl) ml_X0_71 mw_minL_s mw_math mw_minL_c (Nat.le_of_ble_eq_true rfl) (Nat.le_of_ble_eq_true rfl) (Nat.le_of_ble_eq_true rfl) (Nat.le_of_ble_eq_true rfl) ?_
    first | refine r_mmaxLI (pc := 68) (tX0_operate.at 38 rfl) ml_X0_74 mw_maxL_s mw_math mw_maxL_c (Nat.le_of_ble_eq_true rfl) (Nat.le_of_ble_eq_true rfl) (Nat.le_of_ble_eq_true rfl) (Nat.le_of_ble_eq_true rfl) ⟨by omega, by omega⟩ ⟨by omega, by omega⟩ ?_ | refine r_mmaxL (pc := 68) (tX0_operate.at 38 rfl) ml_X0_74 mw_maxL_s mw_math mw_maxL_c (Nat.le_of_ble_eq_true rfl) (Nat.le_of_ble_eq_true rfl) (Nat.le_of_ble_eq_true rfl) (Nat.le_of_ble_eq_true rfl) ?_
    first | refine r_l2iZ (pc := 71) (tX0_operate.at 39 rfl) ?_ | refine r_l2i (pc := 71) (tX0_operate.at 39 rfl) ?_
    refine r_iret (pc := 72) (tX0_operate.at 40 rfl) rfl (Nat.le_of_ble_eq_true rfl) (Nat.le_of_ble_eq_true rfl) ?_
    exact ⟨by rw [hq]; rfl, rfl, rfl⟩
  refine r_iload_n (pc := 0) (i := 0) (tX0_operate.at 0 rfl) rfl rfl ?_
  refine r_bipush (pc := 1) (w := zI (-4)) (tX0_operate.at 1 rfl) (by decide) ?_
  refine r_icmp_neZ (pc := 3) 14 (tX0_operate.at 2 rfl) (by decide) ⟨by omega, by omega⟩ ⟨by omega, by omega⟩ (fun c1 => ?_) (fun c1 => ?_)
  · refine r_iload_n (pc := 14) (i := 0) (tX0_operate.at 8 rfl) rfl rfl ?_
    refine r_bipush (pc := 15) (w := zI (-5)) (tX0_operate.at 9 rfl) (by decide) ?_
    refine r_icmp_neZ (pc := 17) 28 (tX0_operate.at 10 rfl) (by decide) ⟨by omega, by omega⟩ ⟨by omega, by omega⟩ (fun c2 => ?_) (fun c2 => ?_)
    · refine r_iload_n (pc := 28) (i := 0) (tX0_operate.at 16 rfl) rfl rfl ?_
      refine r_bipush (pc := 29) (w := zI (-6)) (tX0_operate.at 17 rfl) (by decide) ?_
      refine r_icmp_neZ (pc := 31) 42 (tX0_operate.at 18 rfl) (by decide) ⟨by omega, by omega⟩ ⟨by omega, by omega⟩ (fun c3 => ?_) (fun c3 => ?_)
      · refine r_lload_n (pc := 42) (i := 3) (tX0_operate.at 24 rfl) rfl rfl ?_
        refine r_lconst (pc := 43) (w := lI 0) (tX0_operate.at 25 rfl) (by decide) ?_
        refine r_lc_ne (pc := 44) 52 (tX0_operate.at 26 rfl) (tX0_operate.at 27 rfl) (by decide) (⟨by omega, by omega⟩) (⟨by omega, by omega⟩) (fun c4 => ?_) (fun c4 => ?_)
        · refine r_lload_n (pc := 52) (i := 1) (tX0_operate.at 30 rfl) rfl rfl ?_
          refine r_lload_n (pc := 53) (i := 3) (tX0_operate.at 31 rfl) rfl rfl ?_
          refine r_ldivL (pc := 54) (tX0_operate.at 32 rfl) (⟨by omega, by omega⟩) (⟨by omega, by omega⟩) (c4) ?_
          refine r_lstore (pc := 55) (i := 5) (tX0_operate.at 33 rfl) (by decide) ?_
          exact fin _ ⟨by omega, by omega⟩ (by rw [opI, if_neg c1, if_neg c2, if_neg c3, if_neg c4])
        · refine r_lconst (pc := 48) (w := lI 0) (tX0_operate.at 28 rfl) (by decide) ?_
          refine r_goto (pc := 49) 55 (tX0_operate.at 29 rfl) (by decide) ?_
          refine r_lstore (pc := 55) (i := 5) (tX0_operate.at 33 rfl) (by decide) ?_
          exact fin _ ⟨by omega, by omega⟩ (by rw [opI, if_neg c1, if_neg c2, if_neg c3, if_pos c4])
      · refine r_lload_n (pc := 34) (i := 1) (tX0_operate.at 19 rfl) rfl rfl ?_
        refine r_lload_n (pc := 35) (i := 3) (tX0_operate.at 20 rfl) rfl rfl ?_
        first | refine r_lmulL (pc := 36) (tX0_operate.at 21 rfl) ?_ | refine r_lmul (pc := 36) (tX0_operate.at 21 rfl) ?_
        refine r_lstore (pc := 37) (i := 5) (tX0_operate.at 22 rfl) (by decide) ?_
        refine r_goto (pc := 39) 57 (tX0_operate.at 23 rfl) (by decide) ?_
        exact fin _ ⟨by omega, by omega⟩ (by rw [opI, if_neg c1, if_neg c2, if_pos c3])
    · refine r_lload_n (pc := 20) (i := 1) (tX0_operate.at 11 rfl) rfl rfl ?_
      refine r_lload_n (pc := 21) (i := 3) (tX0_operate.at 12 rfl) rfl rfl ?_
      first | refine r_lsubL (pc := 22) (tX0_operate.at 13 rfl) ?_ | refine r_lsub (pc := 22) (tX0_operate.at 13 rfl) ?_
      refine r_lstore (pc := 23) (i := 5) (tX0_operate.at 14 rfl) (by decide) ?_
      refine r_goto (pc := 25) 57 (tX0_operate.at 15 rfl) (by decide) ?_
      exact fin _ ⟨by omega, by omega⟩ (by rw [opI, if_neg c1, if_pos c2])
  · refine r_lload_n (pc := 6) (i := 1) (tX0_operate.at 3 rfl) rfl rfl ?_
    refine r_lload_n (pc := 7) (i := 3) (tX0_operate.at 4 rfl) rfl rfl ?_
    first | refine r_laddL (pc := 8) (tX0_operate.at 5 rfl) ?_ | refine r_ladd (pc := 8) (tX0_operate.at 5 rfl) ?_
    refine r_lstore (pc := 9) (i := 5) (tX0_operate.at 6 rfl) (by decide) ?_
    refine r_goto (pc := 11) 57 (tX0_operate.at 7 rfl) (by decide) ?_
    exact fin _ ⟨by omega, by omega⟩ (by rw [opI, if_pos c1])
def evS (w x y c : Int) (L : List Int) : List Int :=
  if -4 < c then (if L.length < 16 then opd c w x y :: L else L)
  else match L with
    | r :: l :: t => clM (opI c l r) :: t
    | _ => L
theorem evS_op {w x y c r l : Int} {t : List Int} (h : c ≤ -4) : evS w x y c (r :: l :: t) = clM (opI c l r) :: t := by
  unfold evS
  rw [if_neg (by omega)]
theorem evS_sm {w x y c : Int} {L : List Int} (h : c ≤ -4) (h2 : L.length < 2) : evS w x y c L = L := by
  unfold evS
  rw [if_neg (by omega)]
  rcases L with _ | ⟨r, _ | ⟨l, t⟩⟩
  · rfl
  · rfl
  · exact absurd h2 (by simp)
theorem evS_no {w x y c : Int} {L : List Int} (h : -4 < c) (h2 : 16 ≤ L.length) : evS w x y c L = L := by
  unfold evS
  rw [if_pos h, if_neg (by omega)]
theorem evS_pu {w x y c : Int} {L : List Int} (h : -4 < c) (h2 : L.length < 16) : evS w x y c L = opd c w x y :: L := by
  unfold evS
  rw [if_pos h, if_pos h2]
def evL (w x y : Int) (c : Nat → Int) : Nat → List Int
  | 0 => []
  | k + 1 => evS w x y (c k) (evL w x y c k)
def evV (L : List Int) : Int := (L.reverse[0]?).getD 0
def stk (s : Nat → Int) (L : List Int) : Prop := ∀ (i : Nat) (x : Int), L.reverse[i]? = some x → s i = x
def bdS (s : Nat → Int) : Prop := ∀ i, -1000000 ≤ s i ∧ s i ≤ 1000000
theorem stk_push {s : Nat → Int} {L : List Int} (h : stk s L) (x : Int) : stk (upZ s L.length x) (x :: L) := by
  intro i y hy
  rw [List.reverse_cons, List.getElem?_append] at hy
  split at hy
  · next h1 =>
    rw [List.length_reverse] at h1
    rw [upZ_ne _ _ (by omega)]
    exact h i y hy
  · next h1 =>
    rw [List.length_reverse] at h1 hy
    have h2 : i - L.length = 0 := by
      rcases Nat.eq_zero_or_pos (i - L.length) with q | q
      · exact q
      · rw [List.getElem?_eq_none (by simp; omega)] at hy
        cases hy
    rw [h2] at hy
    have h3 : i = L.length := by omega
    rw [h3, upZ_eq]
    exact Option.some.inj hy
theorem stk_top {s : Nat → Int} {L : List Int} {x : Int} (h : stk s (x :: L)) : s L.length = x := h L.length x (by rw [List.reverse_cons, List.getElem?_append_right (by simp)]; simp)
theorem stk_pop {s : Nat → Int} {L : List Int} {x : Int} (h : stk s (x :: L)) : stk s L := fun i y hy => h i y (by
  rw [List.reverse_cons, List.getElem?_append_left]
  · exact hy
  · exact (List.getElem?_eq_some_iff.mp hy).1)
theorem bdS_up {s : Nat → Int} (h : bdS s) (i : Nat) {x : Int} (hx : -1000000 ≤ x ∧ x ≤ 1000000) : bdS (upZ s i x) := by
  intro j
  unfold upZ
  split
  · exact hx
  · exact h j
theorem evS_len {w x y c : Int} {L : List Int} (h : L.length ≤ 16) : (evS w x y c L).length ≤ 16 := by
  unfold evS
  split
  · split
    · simp; omega
    · exact h
  · match L with
    | [] => exact h
    | [_] => exact h
    | r :: l :: t => simp at h ⊢; omega
theorem evL_len (w x y : Int) (c : Nat → Int) : ∀ k, (evL w x y c k).length ≤ 16
  | 0 => by simp [evL]
  | k + 1 => evS_len (evL_len w x y c k)
theorem opd_b {c : Int} {w x y : Nat} (hc : -7 ≤ c ∧ c ≤ 1000000) (h4 : -4 < c) (hw : w ≤ 1000000) (hx : x < 6) (hy : y < 6) : -1000000 ≤ opd c w x y ∧ opd c w x y ≤ 1000000 := by unfold opd; split <;> (try split) <;> (try split) <;> omega
def isC (h : Hp) (v : Ev) (q : Nat) (s : Nat → Int) : Prop := h q = some (ob 0 [.ref (q + 1), .ref (q + 2)]) ∧ h (q + 1) = some (aI v 16 (sF s))
theorem c_eval {v : Ev} {h : Hp} {top q F n w x y : Nat} {c s0 : Nat → Int} (hq : isC h v q s0) (hs : bdS s0) (hc : isCode v h F n c) (hF : F ≠ q + 1) (hn : n ≤ 65536) (hcb : ∀ k, k < n → -7 ≤ c k ∧ c k ≤ 1000000) (hw : w ≤ 1000000) (hx : x < 6) (hy : y < 6) :
    Cal v mX0_evaluate 3 0 0 [.ref q, .ref F, .int (nI w), .int (nI x), .int (nI y)] h top (fun r h' top' => r = some (.int (zI (evV (evL w x y c n)))) ∧ top = top' ∧ ∃ s, bdS s ∧ h' = hp h (q + 1) (aI v 16 (sF s))) noX := by
  obtain ⟨h0, h1⟩ := hq
  refine Cal.ofJ (by decide +kernel) rfl (Nat.le_of_ble_eq_true rfl) fun hz0 => ?_
  refine r_ls [some (.ref q), some (.ref F), some (.int (nI w)), some (.int (nI x)), some (.int (nI y)), none, none, none] rfl ?_
  have key : ∀ m k s, k + m = n → stk s (evL w x y c k) → bdS s → ∀ o7, J v mX0_evaluate (rmOf 3 0 0) (KM v (fun r h' top' => r = some (.int (zI (evV (evL w x y c n)))) ∧ top = top' ∧ ∃ s, bdS s ∧ h' = hp h (q + 1) (aI v 16 (sF s))) noX 0 0) top 0 0 (hp h (q + 1) (aI v 16 (sF s))) top 6 [some (.ref q), some (.ref F), some (.int (nI w)), some (.int (nI x)), some (.int (nI y)), some (.int (nI (evL w x y c k).length)), some (.int (nI k)), o7] [] := by
    intro m
    induction m with
    | zero =>
      intro k s hk hst hbs o7
      have hk : k = n := by omega
      subst hk
      have hln := evL_len w x y c k
      have g0 : hp h (q + 1) (aI v 16 (sF s)) q = some (ob 0 [.ref (q + 1), .ref (q + 2)]) := (hp_ne _ _ (by omega)).trans h0
      refine r_iload (pc := 6) (i := 6) (tX0_evaluate.at 4 rfl) rfl ?_
      refine r_aload_n (pc := 8) (i := 1) (tX0_evaluate.at 5 rfl) rfl rfl ?_
      refine r_alenC (pc := 9) (tX0_evaluate.at 6 rfl) (hc.put hF) ?_
      refine r_icmp_geN (pc := 10) 105 (tX0_evaluate.at 7 rfl) (by decide) (by omega) (by omega) (fun _ => ?_) (fun c => by omega)
      refine r_iload (pc := 105) (i := 5) (tX0_evaluate.at 57 rfl) rfl ?_
      refine r_if_leN (pc := 107) 119 (tX0_evaluate.at 58 rfl) (by decide) (by omega) (fun c0 => ?_) (fun c0 => ?_)
      · refine r_iconst (pc := 119) (w := nI 0) (tX0_evaluate.at 64 rfl) (by decide) ?_
        refine r_iret (pc := 120) (tX0_evaluate.at 65 rfl) rfl (Nat.le_of_ble_eq_true rfl) (Nat.le_of_ble_eq_true rfl) ?_
        exact ⟨by rw [List.length_eq_zero_iff.mp c0]; rfl, rfl, s, hbs, rfl⟩
      · have hv : s 0 = evV (evL w x y c k) := by
          match hL : (evL w x y c k).reverse with
          | [] => rw [List.reverse_eq_nil_iff.mp hL] at c0; exact absurd c0 (by simp)
          | z :: t => rw [evV, hL]; exact hst 0 z (by rw [hL]; rfl)
        refine r_aload_n (pc := 110) (i := 0) (tX0_evaluate.at 59 rfl) rfl rfl ?_
        refine r_get (pc := 111) (tX0_evaluate.at 60 rfl) gf_X0_9 (g0) rfl ?_
        refine r_iconst (pc := 114) (w := nI 0) (tX0_evaluate.at 61 rfl) (by decide) ?_
        refine r_iald (pc := 115) (tX0_evaluate.at 62 rfl) (hp_eq _ _ _) (0) (rfl) (by omega) (Nat.le_of_ble_eq_true rfl) ?_
        refine r_goto (pc := 116) 120 (tX0_evaluate.at 63 rfl) (by decide) ?_
        refine r_iret (pc := 120) (tX0_evaluate.at 65 rfl) rfl (Nat.le_of_ble_eq_true rfl) (Nat.le_of_ble_eq_true rfl) ?_
        exact ⟨by rw [← hv]; rfl, rfl, s, hbs, rfl⟩
    | succ m ih =>
      intro k s hk hst hbs o7
      have hln := evL_len w x y c k
      have g0 : hp h (q + 1) (aI v 16 (sF s)) q = some (ob 0 [.ref (q + 1), .ref (q + 2)]) := (hp_ne _ _ (by omega)).trans h0
      have hck := hcb k (by omega)
      refine r_iload (pc := 6) (i := 6) (tX0_evaluate.at 4 rfl) rfl ?_
      refine r_aload_n (pc := 8) (i := 1) (tX0_evaluate.at 5 rfl) rfl rfl ?_
      refine r_alenC (pc := 9) (tX0_evaluate.at 6 rfl) (hc.put hF) ?_
      refine r_icmp_geN (pc := 10) 105 (tX0_evaluate.at 7 rfl) (by decide) (by omega) (by omega) (fun c => by omega) (fun _ => ?_)
      refine r_aload_n (pc := 13) (i := 1) (tX0_evaluate.at 8 rfl) rfl rfl ?_
      refine r_iload (pc := 14) (i := 6) (tX0_evaluate.at 9 rfl) rfl ?_
      refine r_ialdC (pc := 16) (tX0_evaluate.at 10 rfl) (hc.put hF) (k) (by omega) (by omega) ?_
      refine r_istore (pc := 17) (i := 7) (tX0_evaluate.at 11 rfl) (by decide) ?_
      refine r_iload (pc := 19) (i := 7) (tX0_evaluate.at 12 rfl) rfl ?_
      refine r_bipush (pc := 21) (w := zI (-4)) (tX0_evaluate.at 13 rfl) (by decide) ?_
      refine r_icmp_leZ (pc := 23) 58 (tX0_evaluate.at 14 rfl) (by decide) ⟨by omega, by omega⟩ ⟨by omega, by omega⟩ (fun c1 => ?_) (fun c1 => ?_)
      · refine r_iload (pc := 58) (i := 5) (tX0_evaluate.at 31 rfl) rfl ?_
        refine r_iconst (pc := 60) (w := nI 2) (tX0_evaluate.at 32 rfl) (by decide) ?_
        refine r_icmp_ltN (pc := 61) 99 (tX0_evaluate.at 33 rfl) (by decide) (by omega) (by omega) (fun c2 => ?_) (fun c2 => ?_)
        · have hE : evL w x y c (k + 1) = evL w x y c k := evS_sm c1 c2
          have nx := ih (k + 1) s (by omega) (by rw [hE]; exact hst) hbs (some (.int (zI (c k))))
          rw [hE] at nx
          first | refine r_iincN (pc := 99) (tX0_evaluate.at 55 rfl) rfl (by decide) ?_ | refine r_iinc (pc := 99) (tX0_evaluate.at 55 rfl) rfl rfl (by decide) ?_
          refine r_goto (pc := 102) 6 (tX0_evaluate.at 56 rfl) (by decide) ?_
          exact nx
        · match hL : evL w x y c k with
          | [] => rw [hL] at c2; exact absurd c2 (by simp)
          | [_] => rw [hL] at c2; exact absurd c2 (by simp)
          | r :: l :: t =>
            rw [hL] at hst hln
            have e1 : s (t.length + 1) = r := stk_top hst
            have e2 : s t.length = l := stk_top (stk_pop hst)
            have hE : evL w x y c (k + 1) = clM (opI (c k) l r) :: t := by rw [evL, hL, evS_op c1]
            have hl1 : 1 ≤ (l :: t).length := by simp
            have hlt : t.length + 2 ≤ 16 := hln
            have hcl := clM_b (opI (c k) l r)
            have nx := ih (k + 1) (upZ s t.length (clM (opI (c k) l r))) (by omega) (by rw [hE]; exact stk_push (stk_pop (stk_pop hst)) _) (bdS_up hbs _ hcl) (some (.int (zI (c k))))
            rw [hE] at nx
            subst e1; subst e2
            have hb1 := hbs (t.length + 1)
            have hb2 := hbs t.length
            first | refine r_idecN (pc := 64) (tX0_evaluate.at 34 rfl) rfl (by decide) ?_ | refine r_iinc (pc := 64) (tX0_evaluate.at 34 rfl) rfl rfl (by decide) ?_
            refine r_aload_n (pc := 67) (i := 0) (tX0_evaluate.at 35 rfl) rfl rfl ?_
            refine r_get (pc := 68) (tX0_evaluate.at 36 rfl) gf_X0_9 (g0) rfl ?_
            refine r_iload (pc := 71) (i := 5) (tX0_evaluate.at 37 rfl) rfl ?_
            refine r_iconst (pc := 73) (w := nI 1) (tX0_evaluate.at 38 rfl) (by decide) ?_
            first | refine r_isubN (pc := 74) (tX0_evaluate.at 39 rfl) (by omega) ?_ | refine r_isubZ (pc := 74) (tX0_evaluate.at 39 rfl) ?_ | refine r_isub (pc := 74) (tX0_evaluate.at 39 rfl) ?_
            refine r_iload (pc := 75) (i := 7) (tX0_evaluate.at 40 rfl) rfl ?_
            refine r_aload_n (pc := 77) (i := 0) (tX0_evaluate.at 41 rfl) rfl rfl ?_
            refine r_get (pc := 78) (tX0_evaluate.at 42 rfl) gf_X0_9 (g0) rfl ?_
            refine r_iload (pc := 81) (i := 5) (tX0_evaluate.at 43 rfl) rfl ?_
            refine r_iconst (pc := 83) (w := nI 1) (tX0_evaluate.at 44 rfl) (by decide) ?_
            first | refine r_isubN (pc := 84) (tX0_evaluate.at 45 rfl) (by omega) ?_ | refine r_isubZ (pc := 84) (tX0_evaluate.at 45 rfl) ?_ | refine r_isub (pc := 84) (tX0_evaluate.at 45 rfl) ?_
            refine r_iald (pc := 85) (tX0_evaluate.at 46 rfl) (hp_eq _ _ _) (t.length) (rfl) (by omega) (Nat.le_of_ble_eq_true rfl) ?_
            first | refine r_i2lN (pc := 86) (tX0_evaluate.at 47 rfl) (by omega) ?_ | refine r_i2lZ (pc := 86) (tX0_evaluate.at 47 rfl) ⟨by omega, by omega⟩ ?_ | refine r_i2l (pc := 86) (tX0_evaluate.at 47 rfl) ?_
            refine r_aload_n (pc := 87) (i := 0) (tX0_evaluate.at 48 rfl) rfl rfl ?_
            refine r_get (pc := 88) (tX0_evaluate.at 49 rfl) gf_X0_9 (g0) rfl ?_
            refine r_iload (pc := 91) (i := 5) (tX0_evaluate.at 50 rfl) rfl ?_
            refine r_iald (pc := 93) (tX0_evaluate.at 51 rfl) (hp_eq _ _ _) (t.length + 1) (rfl) (by omega) (Nat.le_of_ble_eq_true rfl) ?_
            first | refine r_i2lN (pc := 94) (tX0_evaluate.at 52 rfl) (by omega) ?_ | refine r_i2lZ (pc := 94) (tX0_evaluate.at 52 rfl) ⟨by omega, by omega⟩ ?_ | refine r_i2l (pc := 94) (tX0_evaluate.at 52 rfl) ?_
            refine r_callS (M' := mX0_operate) (pc := 95) (tX0_evaluate.at 53 rfl) ml_X0_63 rfl mw_X0_operate ⟨by decide, by decide⟩ (c_opr ⟨hck.1, c1⟩ hb2 hb1) rfl rfl (Nat.le_of_ble_eq_true rfl) (Nat.le_of_ble_eq_true rfl) (Nat.le_of_ble_eq_true rfl) ?_
            rintro _ _ _ ⟨rfl, rfl, rfl⟩
            refine r_iast (pc := 98) (tX0_evaluate.at 54 rfl) (hp_eq _ _ _) (t.length) (rfl) (by omega) (Nat.le_of_ble_eq_true rfl) ?_
            rw [upd_sF, hp_hp]
            first | refine r_iincN (pc := 99) (tX0_evaluate.at 55 rfl) rfl (by decide) ?_ | refine r_iinc (pc := 99) (tX0_evaluate.at 55 rfl) rfl rfl (by decide) ?_
            refine r_goto (pc := 102) 6 (tX0_evaluate.at 56 rfl) (by decide) ?_
            exact nx
      · refine r_iload (pc := 26) (i := 5) (tX0_evaluate.at 15 rfl) rfl ?_
        refine r_aload_n (pc := 28) (i := 0) (tX0_evaluate.at 16 rfl) rfl rfl ?_
        refine r_get (pc := 29) (tX0_evaluate.at 17 rfl) gf_X0_9 (g0) rfl ?_
        refine r_alenI (pc := 32) (tX0_evaluate.at 18 rfl) (hp_eq _ _ _) ?_
        refine r_icmp_geN (pc := 33) 99 (tX0_evaluate.at 19 rfl) (by decide) (by omega) (by omega) (fun c2 => ?_) (fun c2 => ?_)
        · have hE : evL w x y c (k + 1) = evL w x y c k := evS_no c1 c2
          have nx := ih (k + 1) s (by omega) (by rw [hE]; exact hst) hbs (some (.int (zI (c k))))
          rw [hE] at nx
          first | refine r_iincN (pc := 99) (tX0_evaluate.at 55 rfl) rfl (by decide) ?_ | refine r_iinc (pc := 99) (tX0_evaluate.at 55 rfl) rfl rfl (by decide) ?_
          refine r_goto (pc := 102) 6 (tX0_evaluate.at 56 rfl) (by decide) ?_
          exact nx
        · have hE : evL w x y c (k + 1) = opd (c k) w x y :: evL w x y c k := evS_pu c1 c2
          have hob := opd_b (w := w) hck (by omega) hw hx hy
          have nx := ih (k + 1) (upZ s (evL w x y c k).length (opd (c k) w x y)) (by omega) (by rw [hE]; exact stk_push hst _) (bdS_up hbs _ hob) (some (.int (zI (c k))))
          rw [hE] at nx
          refine r_aload_n (pc := 36) (i := 0) (tX0_evaluate.at 20 rfl) rfl rfl ?_
          refine r_get (pc := 37) (tX0_evaluate.at 21 rfl) gf_X0_9 (g0) rfl ?_
          refine r_iload (pc := 40) (i := 5) (tX0_evaluate.at 22 rfl) rfl ?_
          refine r_iload (pc := 42) (i := 7) (tX0_evaluate.at 23 rfl) rfl ?_
          refine r_iload_n (pc := 44) (i := 2) (tX0_evaluate.at 24 rfl) rfl rfl ?_
          refine r_iload_n (pc := 45) (i := 3) (tX0_evaluate.at 25 rfl) rfl rfl ?_
          refine r_iload (pc := 46) (i := 4) (tX0_evaluate.at 26 rfl) rfl ?_
          refine r_callS (M' := mX0_operand) (pc := 48) (tX0_evaluate.at 27 rfl) ml_X0_59 rfl mw_X0_operand ⟨by decide, by decide⟩ (c_opnd hck) rfl rfl (Nat.le_of_ble_eq_true rfl) (Nat.le_of_ble_eq_true rfl) (Nat.le_of_ble_eq_true rfl) ?_
          rintro _ _ _ ⟨rfl, rfl, rfl⟩
          refine r_iast (pc := 51) (tX0_evaluate.at 28 rfl) (hp_eq _ _ _) ((evL w x y c k).length) (rfl) (by omega) (Nat.le_of_ble_eq_true rfl) ?_
          rw [upd_sF, hp_hp]
          first | refine r_iincN (pc := 52) (tX0_evaluate.at 29 rfl) rfl (by decide) ?_ | refine r_iinc (pc := 52) (tX0_evaluate.at 29 rfl) rfl rfl (by decide) ?_
          refine r_goto (pc := 55) 99 (tX0_evaluate.at 30 rfl) (by decide) ?_
          first | refine r_iincN (pc := 99) (tX0_evaluate.at 55 rfl) rfl (by decide) ?_ | refine r_iinc (pc := 99) (tX0_evaluate.at 55 rfl) rfl rfl (by decide) ?_
          refine r_goto (pc := 102) 6 (tX0_evaluate.at 56 rfl) (by decide) ?_
          exact nx
  refine r_iconst (pc := 0) (w := nI 0) (tX0_evaluate.at 0 rfl) (by decide) ?_
  refine r_istore (pc := 1) (i := 5) (tX0_evaluate.at 1 rfl) (by decide) ?_
  refine r_iconst (pc := 3) (w := nI 0) (tX0_evaluate.at 2 rfl) (by decide) ?_
  refine r_istore (pc := 4) (i := 6) (tX0_evaluate.at 3 rfl) (by decide) ?_
  refine r_eq (h2 := hp h (q + 1) (aI v 16 (sF s0))) (hp_id h1).symm rfl ?_
  exact key n 0 s0 (by omega) (fun i x hx => by simp [evL] at hx) hs none
theorem evL_b {w x y : Nat} {c : Nat → Int} {n : Nat} (hcb : ∀ k, k < n → -7 ≤ c k ∧ c k ≤ 1000000) (hw : w ≤ 1000000) (hx : x < 6) (hy : y < 6) : ∀ k, k ≤ n → ∀ z ∈ evL w x y c k, -1000000 ≤ z ∧ z ≤ 1000000
  | 0, _, z, hz => by simp [evL] at hz
  | k + 1, hk, z, hz => by
    have ih := evL_b hcb hw hx hy k (by omega)
    have hck := hcb k (by omega)
    rw [evL] at hz
    by_cases c1 : -4 < c k
    · by_cases c2 : (evL w x y c k).length < 16
      · rw [evS_pu c1 c2] at hz
        rcases List.mem_cons.mp hz with h1 | h1
        · rw [h1]
          exact opd_b hck c1 hw hx hy
        · exact ih z h1
      · rw [evS_no c1 (by omega)] at hz
        exact ih z hz
    · match hL : evL w x y c k with
      | [] => rw [hL, evS_sm (by omega) (by simp)] at hz; simp at hz
      | [a] => rw [hL, evS_sm (by omega) (by simp)] at hz; exact ih z (by rw [hL]; exact hz)
      | r :: l :: t =>
        rw [hL, evS_op (by omega)] at hz
        rcases List.mem_cons.mp hz with h1 | h1
        · rw [h1]
          exact clM_b _
        · exact ih z (by rw [hL]; exact List.mem_cons_of_mem _ (List.mem_cons_of_mem _ h1))
theorem evV_b {w x y : Nat} {c : Nat → Int} {n : Nat} (hcb : ∀ k, k < n → -7 ≤ c k ∧ c k ≤ 1000000) (hw : w ≤ 1000000) (hx : x < 6) (hy : y < 6) : -1000000 ≤ evV (evL w x y c n) ∧ evV (evL w x y c n) ≤ 1000000 := by
  unfold evV
  cases hh : (evL w x y c n).reverse[0]? with
  | none => simp
  | some z => exact evL_b hcb hw hx hy n (Nat.le_refl _) z (List.mem_reverse.mp (List.mem_of_getElem? hh))
/-- the cost of a step -/
def cst (W : Nat → Nat) (c : Nat → Int) (n x y : Nat) : Nat := (max 0 (min 99 (evV (evL (W (x * 6 + y) : Nat) x y c n)))).toNat
theorem cst_le (W : Nat → Nat) (c : Nat → Int) (n x y : Nat) : cst W c n x y ≤ 99 := by unfold cst; omega
def isCd (v : Ev) (h : Hp) (F q n : Nat) (c : Nat → Int) : Prop := isCode v h F n c ∧ F ≠ q + 1 ∧ F ≠ q + 2 ∧ n ≤ 65536 ∧ ∀ k, k < n → -7 ≤ c k ∧ c k ≤ 1000000
theorem isCd.put {v : Ev} {h : Hp} {F q n a : Nat} {e : va_E} {c : Nat → Int} (hc : isCd v h F q n c) (ha : a = q + 1 ∨ a = q + 2) : isCd v (hp h a e) F q n c := by
  obtain ⟨h1, h2, h3, h4⟩ := hc
  exact ⟨h1.put (by omega), h2, h3, h4⟩
theorem c_cost {v : Ev} {h : Hp} {top q g n x y : Nat} {G : GT} {c s0 : Nat → Int} (hq : isC h v q s0) (hs : bdS s0) (hg : isG v h g G) (hc : isCd v h G.F q n c) (hW : ∀ k, k < 36 → G.W k ≤ 1000000) (hx : x < 6) (hy : y < 6) :
    Cal v mX0_costOfStep 4 0 0 [.ref q, .ref g, .int (nI x), .int (nI y)] h top (fun r h' top' => r = some (.int (nI (cst G.W c n x y))) ∧ top = top' ∧ ∃ s, bdS s ∧ h' = hp h (q + 1) (aI v 16 (sF s))) noX := by
  obtain ⟨hc1, hc2, hc3, hc4, hc5⟩ := hc
  have hb := evV_b (w := G.W (x * 6 + y)) hc5 (hW _ (by omega)) hx hy
  refine Cal.ofJ (by decide +kernel) rfl (Nat.le_of_ble_eq_true rfl) fun hz0 => ?_
  refine r_ls [some (.ref q), some (.ref g), some (.int (nI x)), some (.int (nI y)), none] rfl ?_
  refine r_aload_n (pc := 0) (i := 0) (tX0_costOfStep.at 0 rfl) rfl rfl ?_
  refine r_aload_n (pc := 1) (i := 1) (tX0_costOfStep.at 1 rfl) rfl rfl ?_
  refine r_get (pc := 2) (tX0_costOfStep.at 2 rfl) gf_X0_18 (hg.1) rfl ?_
  refine r_aload_n (pc := 5) (i := 1) (tX0_costOfStep.at 3 rfl) rfl rfl ?_
  refine r_iload_n (pc := 6) (i := 2) (tX0_costOfStep.at 4 rfl) rfl rfl ?_
  refine r_iload_n (pc := 7) (i := 3) (tX0_costOfStep.at 5 rfl) rfl rfl ?_
  refine r_callV (M' := mX3_weightBetween) (pc := 8) (tX0_costOfStep.at 6 rfl) ml_X0_23 rfl mw_X3_weightBetween ⟨by decide, by decide⟩ (hg.1) rfl rfl (c_wb hg (by omega)) rfl rfl (Nat.le_of_ble_eq_true rfl) (Nat.le_of_ble_eq_true rfl) (Nat.le_of_ble_eq_true rfl) ?_
  rintro _ _ _ ⟨rfl, rfl, rfl⟩
  refine r_iload_n (pc := 11) (i := 2) (tX0_costOfStep.at 7 rfl) rfl rfl ?_
  refine r_iload_n (pc := 12) (i := 3) (tX0_costOfStep.at 8 rfl) rfl rfl ?_
  refine r_callV (M' := mX0_evaluate) (pc := 13) (tX0_costOfStep.at 9 rfl) ml_X0_27 rfl mw_X0_evaluate ⟨by decide, by decide⟩ (hq.1) rfl rfl (c_eval hq hs hc1 hc2 hc4 hc5 (hW _ (by omega)) hx hy) rfl rfl (Nat.le_of_ble_eq_true rfl) (Nat.le_of_ble_eq_true rfl) (Nat.le_of_ble_eq_true rfl) ?_
  rintro _ _ _ ⟨rfl, rfl, s, hbs, rfl⟩
  refine r_istore (pc := 16) (i := 4) (tX0_costOfStep.at 10 rfl) (by decide) ?_
  refine r_iconst (pc := 18) (w := nI 0) (tX0_costOfStep.at 11 rfl) (by decide) ?_
  refine r_bipush (pc := 19) (w := nI 99) (tX0_costOfStep.at 12 rfl) (by decide) ?_
  refine r_iload (pc := 21) (i := 4) (tX0_costOfStep.at 13 rfl) rfl ?_
  rw [show nI 0 = zI 0 from rfl, show nI 99 = zI 99 from rfl]
  refine r_eq (h2 := hp h (q + 1) (aI v 16 (sF s))) rfl (st2 := [.int (zI (evV (evL (G.W (x * 6 + y) : Nat) x y c n))), .int (zI 99), .int (zI 0)]) rfl ?_
  first | refine r_mminN (pc := 23) (tX0_costOfStep.at 14 rfl) ml_X0_31 mw_min_s mw_math mw_min_c (Nat.le_of_ble_eq_true rfl) (Nat.le_of_ble_eq_true rfl) (Nat.le_of_ble_eq_true rfl) (Nat.le_of_ble_eq_true rfl) (by omega) (by omega) ?_ | refine r_mminZ (pc := 23) (tX0_costOfStep.at 14 rfl) ml_X0_31 mw_min_s mw_math mw_min_c (Nat.le_of_ble_eq_true rfl) (Nat.le_of_ble_eq_true rfl) (Nat.le_of_ble_eq_true rfl) (Nat.le_of_ble_eq_true rfl) ⟨by omega, by omega⟩ ⟨by omega, by omega⟩ ?_ | refine r_mmin (pc := 23) (tX0_costOfStep.at 14 rfl) ml_X0_31 mw_min_s mw_math mw_min_c (Nat.le_of_ble_eq_true rfl) (Nat.le_of_ble_eq_true rfl) (Nat.le_of_ble_eq_true rfl) (Nat.le_of_ble_eq_true rfl) ?_
  first | refine r_mmaxN (pc := 26) (tX0_costOfStep.at 15 rfl) ml_X0_36 mw_max_s mw_math mw_max_c (Nat.le_of_ble_eq_true rfl) (Nat.le_of_ble_eq_true rfl) (Nat.le_of_ble_eq_true rfl) (Nat.le_of_ble_eq_true rfl) (by omega) (by omega) ?_ | refine r_mmaxZ (pc := 26) (tX0_costOfStep.at 15 rfl) ml_X0_36 mw_max_s mw_math mw_max_c (Nat.le_of_ble_eq_true rfl) (Nat.le_of_ble_eq_true rfl) (Nat.le_of_ble_eq_true rfl) (Nat.le_of_ble_eq_true rfl) ⟨by omega, by omega⟩ ⟨by omega, by omega⟩ ?_ | refine r_mmax (pc := 26) (tX0_costOfStep.at 15 rfl) ml_X0_36 mw_max_s mw_math mw_max_c (Nat.le_of_ble_eq_true rfl) (Nat.le_of_ble_eq_true rfl) (Nat.le_of_ble_eq_true rfl) (Nat.le_of_ble_eq_true rfl) ?_
  refine r_iret (pc := 29) (tX0_costOfStep.at 16 rfl) rfl (Nat.le_of_ble_eq_true rfl) (Nat.le_of_ble_eq_true rfl) ?_
  exact ⟨by rw [← zI_nat, cst, Int.toNat_of_nonneg (by omega)], rfl, s, hbs, rfl⟩
def tbS (W : Nat → Nat) (c : Nat → Int) (n : Nat) (L H : Nat → Nat) (T : Nat → Nat) : Nat → Nat → Nat
  | 0 => filF T 36 0
  | e + 1 => upN (upN (tbS W c n L H T e) (L e * 6 + H e) (cst W c n (L e) (H e))) (H e * 6 + L e) (cst W c n (H e) (L e))
theorem c_fillT {v : Ev} {h : Hp} {top q g n : Nat} {G : GT} {c s0 : Nat → Int} {T : Nat → Nat} (hq : isC h v q s0) (hT : h (q + 2) = some (aI v 36 (iF T))) (hs : bdS s0) (hg : isG v h g G) (hgq : g + 6 ≤ q ∨ q + 3 ≤ g) (hc : isCd v h G.F q n c) (hW : ∀ k, k < 36 → G.W k ≤ 1000000) (he : G.e ≤ 15) (hx : ∀ i, i < G.e → G.L i < 6 ∧ G.H i < 6) :
    Cal v mX0_fillTable 5 0 0 [.ref q, .ref g] h top (fun r h' top' => r = none ∧ top = top' ∧ ∃ s, bdS s ∧ h' = hp (hp h (q + 1) (aI v 16 (sF s))) (q + 2) (aI v 36 (iF (tbS G.W c n G.L G.H T G.e)))) noX := by
  obtain ⟨h0, h1⟩ := hq
  refine Cal.ofJ (by decide +kernel) rfl (Nat.le_of_ble_eq_true rfl) fun hz0 => ?_
  refine r_ls [some (.ref q), some (.ref g), none, none, none] rfl ?_
  have hfil := iF_fil T 36 0
  refine r_aload_n (pc := 0) (i := 0) (tX0_fillTable.at 0 rfl) rfl rfl ?_
  refine r_get (pc := 1) (tX0_fillTable.at 1 rfl) gf_X0_15 (h0) rfl ?_
  refine r_iconst (pc := 4) (w := nI 0) (tX0_fillTable.at 2 rfl) (by decide) ?_
  refine r_callS (M' := mJ7_fill_53178) (pc := 5) (tX0_fillTable.at 3 rfl) ml_X0_39 rfl mw_J7_fill_53178 ⟨by decide, by decide⟩ (c_fillI hT (by omega)) rfl rfl (Nat.le_of_ble_eq_true rfl) (Nat.le_of_ble_eq_true rfl) (Nat.le_of_ble_eq_true rfl) ?_
  rintro _ _ _ ⟨rfl, rfl, rfl⟩
  rw [hfil]
  refine r_iconst (pc := 8) (w := nI 0) (tX0_fillTable.at 4 rfl) (by decide) ?_
  refine r_istore_n (pc := 9) (i := 2) (tX0_fillTable.at 5 rfl) rfl (by decide) ?_
  have key : ∀ m i s o3 o4, i + m = G.e → bdS s → J v mX0_fillTable (rmOf 5 0 0) (KM v (fun r h' top' => r = none ∧ top = top' ∧ ∃ s, bdS s ∧ h' = hp (hp h (q + 1) (aI v 16 (sF s))) (q + 2) (aI v 36 (iF (tbS G.W c n G.L G.H T G.e)))) noX 0 0) top 0 0 (hp (hp h (q + 1) (aI v 16 (sF s))) (q + 2) (aI v 36 (iF (tbS G.W c n G.L G.H T i)))) top 10 [some (.ref q), some (.ref g), some (.int (nI i)), o3, o4] [] := by
    intro m
    induction m with
    | zero =>
      intro i s o3 o4 hi hbs
      have hi : i = G.e := by omega
      subst hi
      have hg2 : isG v (hp (hp h (q + 1) (aI v 16 (sF s))) (q + 2) (aI v 36 (iF (tbS G.W c n G.L G.H T G.e)))) g G := (hg.put (by omega)).put (by omega)
      refine r_iload_n (pc := 10) (i := 2) (tX0_fillTable.at 6 rfl) rfl rfl ?_
      refine r_aload_n (pc := 11) (i := 1) (tX0_fillTable.at 7 rfl) rfl rfl ?_
      refine r_get (pc := 12) (tX0_fillTable.at 8 rfl) gf_X0_45 (hg2.1) rfl ?_
      refine r_icmp_geN (pc := 15) 79 (tX0_fillTable.at 9 rfl) (by decide) (by omega) (by omega) (fun _ => ?_) (fun c => by omega)
      refine r_vret (pc := 79) (tX0_fillTable.at 48 rfl) rfl (Nat.le_of_ble_eq_true rfl) (Nat.le_of_ble_eq_true rfl) ?_
      exact ⟨rfl, rfl, s, hbs, rfl⟩
    | succ m ih =>
      intro i s o3 o4 hi hbs
      have hx1 := (hx i (by omega)).1
      have hx2 := (hx i (by omega)).2
      have gT : ∀ (s : Nat → Int) (t : Nat → Nat), isG v (hp (hp h (q + 1) (aI v 16 (sF s))) (q + 2) (aI v 36 (iF t))) g G := fun s t => (hg.put (by omega)).put (by omega)
      have g0 : ∀ (s : Nat → Int) (t : Nat → Nat), isC (hp (hp h (q + 1) (aI v 16 (sF s))) (q + 2) (aI v 36 (iF t))) v q s := fun s t => ⟨(hp_ne _ _ (by omega)).trans ((hp_ne _ _ (by omega)).trans h0), (hp_ne _ _ (by omega)).trans (hp_eq _ _ _)⟩
      have gc : ∀ (s : Nat → Int) (t : Nat → Nat), isCd v (hp (hp h (q + 1) (aI v 16 (sF s))) (q + 2) (aI v 36 (iF t))) G.F q n c := fun s t => (hc.put (Or.inl rfl)).put (Or.inr rfl)
      have gs : ∀ (s s2 : Nat → Int) (t : Nat → Nat), hp (hp (hp h (q + 1) (aI v 16 (sF s))) (q + 2) (aI v 36 (iF t))) (q + 1) (aI v 16 (sF s2)) = hp (hp h (q + 1) (aI v 16 (sF s2))) (q + 2) (aI v 36 (iF t)) := fun s s2 t => by rw [hp_comm _ _ _ (by omega), hp_hp]
      refine r_iload_n (pc := 10) (i := 2) (tX0_fillTable.at 6 rfl) rfl rfl ?_
      refine r_aload_n (pc := 11) (i := 1) (tX0_fillTable.at 7 rfl) rfl rfl ?_
      refine r_get (pc := 12) (tX0_fillTable.at 8 rfl) gf_X0_45 ((gT _ _).1) rfl ?_
      refine r_icmp_geN (pc := 15) 79 (tX0_fillTable.at 9 rfl) (by decide) (by omega) (by omega) (fun c => by omega) (fun _ => ?_)
      refine r_aload_n (pc := 18) (i := 1) (tX0_fillTable.at 10 rfl) rfl rfl ?_
      refine r_get (pc := 19) (tX0_fillTable.at 11 rfl) gf_X0_49 ((gT _ _).1) rfl ?_
      refine r_iload_n (pc := 22) (i := 2) (tX0_fillTable.at 12 rfl) rfl rfl ?_
      refine r_iald (pc := 23) (tX0_fillTable.at 13 rfl) ((gT _ _).2.1) (i) (rfl) (by omega) (Nat.le_of_ble_eq_true rfl) ?_
      refine r_istore_n (pc := 24) (i := 3) (tX0_fillTable.at 14 rfl) rfl (by decide) ?_
      refine r_aload_n (pc := 25) (i := 1) (tX0_fillTable.at 15 rfl) rfl rfl ?_
      refine r_get (pc := 26) (tX0_fillTable.at 16 rfl) gf_X0_52 ((gT _ _).1) rfl ?_
      refine r_iload_n (pc := 29) (i := 2) (tX0_fillTable.at 17 rfl) rfl rfl ?_
      refine r_iald (pc := 30) (tX0_fillTable.at 18 rfl) ((gT _ _).2.2.1) (i) (rfl) (by omega) (Nat.le_of_ble_eq_true rfl) ?_
      refine r_istore (pc := 31) (i := 4) (tX0_fillTable.at 19 rfl) (by decide) ?_
      refine r_aload_n (pc := 33) (i := 0) (tX0_fillTable.at 20 rfl) rfl rfl ?_
      refine r_get (pc := 34) (tX0_fillTable.at 21 rfl) gf_X0_15 ((g0 _ _).1) rfl ?_
      refine r_iload_n (pc := 37) (i := 3) (tX0_fillTable.at 22 rfl) rfl rfl ?_
      refine r_bipush (pc := 38) (w := nI 6) (tX0_fillTable.at 23 rfl) (by decide) ?_
      first | refine r_imulN (pc := 40) (tX0_fillTable.at 24 rfl) ?_ | refine r_imulZ (pc := 40) (tX0_fillTable.at 24 rfl) ?_ | refine r_imul (pc := 40) (tX0_fillTable.at 24 rfl) ?_
      refine r_iload (pc := 41) (i := 4) (tX0_fillTable.at 25 rfl) rfl ?_
      first | refine r_iaddN (pc := 43) (tX0_fillTable.at 26 rfl) ?_ | refine r_iaddZ (pc := 43) (tX0_fillTable.at 26 rfl) ?_ | refine r_iadd (pc := 43) (tX0_fillTable.at 26 rfl) ?_
      refine r_aload_n (pc := 44) (i := 0) (tX0_fillTable.at 27 rfl) rfl rfl ?_
      refine r_aload_n (pc := 45) (i := 1) (tX0_fillTable.at 28 rfl) rfl rfl ?_
      refine r_iload_n (pc := 46) (i := 3) (tX0_fillTable.at 29 rfl) rfl rfl ?_
      refine r_iload (pc := 47) (i := 4) (tX0_fillTable.at 30 rfl) rfl ?_
      refine r_callV (M' := mX0_costOfStep) (pc := 49) (tX0_fillTable.at 31 rfl) ml_X0_55 rfl mw_X0_costOfStep ⟨by decide, by decide⟩ ((g0 _ _).1) rfl rfl (c_cost (g0 _ _) hbs (gT _ _) (gc _ _) hW hx1 hx2) rfl rfl (Nat.le_of_ble_eq_true rfl) (Nat.le_of_ble_eq_true rfl) (Nat.le_of_ble_eq_true rfl) ?_
      rintro _ _ _ ⟨rfl, rfl, s2, hbs2, rfl⟩
      rw [gs]
      refine r_iast (pc := 52) (tX0_fillTable.at 32 rfl) (hp_eq _ _ _) (G.L i * 6 + G.H i) (rfl) (by omega) (Nat.le_of_ble_eq_true rfl) ?_
      rw [upd_iF, hp_hp]
      refine r_aload_n (pc := 53) (i := 0) (tX0_fillTable.at 33 rfl) rfl rfl ?_
      refine r_get (pc := 54) (tX0_fillTable.at 34 rfl) gf_X0_15 ((g0 _ _).1) rfl ?_
      refine r_iload (pc := 57) (i := 4) (tX0_fillTable.at 35 rfl) rfl ?_
      refine r_bipush (pc := 59) (w := nI 6) (tX0_fillTable.at 36 rfl) (by decide) ?_
      first | refine r_imulN (pc := 61) (tX0_fillTable.at 37 rfl) ?_ | refine r_imulZ (pc := 61) (tX0_fillTable.at 37 rfl) ?_ | refine r_imul (pc := 61) (tX0_fillTable.at 37 rfl) ?_
      refine r_iload_n (pc := 62) (i := 3) (tX0_fillTable.at 38 rfl) rfl rfl ?_
      first | refine r_iaddN (pc := 63) (tX0_fillTable.at 39 rfl) ?_ | refine r_iaddZ (pc := 63) (tX0_fillTable.at 39 rfl) ?_ | refine r_iadd (pc := 63) (tX0_fillTable.at 39 rfl) ?_
      refine r_aload_n (pc := 64) (i := 0) (tX0_fillTable.at 40 rfl) rfl rfl ?_
      refine r_aload_n (pc := 65) (i := 1) (tX0_fillTable.at 41 rfl) rfl rfl ?_
      refine r_iload (pc := 66) (i := 4) (tX0_fillTable.at 42 rfl) rfl ?_
      refine r_iload_n (pc := 68) (i := 3) (tX0_fillTable.at 43 rfl) rfl rfl ?_
      refine r_callV (M' := mX0_costOfStep) (pc := 69) (tX0_fillTable.at 44 rfl) ml_X0_55 rfl mw_X0_costOfStep ⟨by decide, by decide⟩ ((g0 _ _).1) rfl rfl (c_cost (g0 _ _) hbs2 (gT _ _) (gc _ _) hW hx2 hx1) rfl rfl (Nat.le_of_ble_eq_true rfl) (Nat.le_of_ble_eq_true rfl) (Nat.le_of_ble_eq_true rfl) ?_
      rintro _ _ _ ⟨rfl, rfl, s3, hbs3, rfl⟩
      rw [gs]
      refine r_iast (pc := 72) (tX0_fillTable.at 45 rfl) (hp_eq _ _ _) (G.H i * 6 + G.L i) (rfl) (by omega) (Nat.le_of_ble_eq_true rfl) ?_
      rw [upd_iF, hp_hp]
      first | refine r_iincN (pc := 73) (tX0_fillTable.at 46 rfl) rfl (by decide) ?_ | refine r_iinc (pc := 73) (tX0_fillTable.at 46 rfl) rfl rfl (by decide) ?_
      refine r_goto (pc := 76) 10 (tX0_fillTable.at 47 rfl) (by decide) ?_
      exact ih (i + 1) s3 _ _ (by omega) hbs3
  refine r_eq (h2 := hp (hp h (q + 1) (aI v 16 (sF s0))) (q + 2) (aI v 36 (iF (tbS G.W c n G.L G.H T 0)))) (by rw [hp_id h1]; rfl) rfl ?_
  exact key G.e 0 s0 none none (by omega) hs
theorem c_tabled {v : Ev} {h : Hp} {top q x y : Nat} {T : Nat → Nat} (h0 : h q = some (ob 0 [.ref (q + 1), .ref (q + 2)])) (hT : h (q + 2) = some (aI v 36 (iF T))) (hx : x < 6) (hy : y < 6) : Cal v mX0_tabled 1 0 0 [.ref q, .int (nI x), .int (nI y)] h top (pR (.int (nI (T (x * 6 + y)))) h top) noX := by
  refine Cal.ofJ (by decide +kernel) rfl (Nat.le_of_ble_eq_true rfl) fun hz0 => ?_
  refine r_ls [some (.ref q), some (.int (nI x)), some (.int (nI y))] rfl ?_
  refine r_aload_n (pc := 0) (i := 0) (tX0_tabled.at 0 rfl) rfl rfl ?_
  refine r_get (pc := 1) (tX0_tabled.at 1 rfl) gf_X0_15 (h0) rfl ?_
  refine r_iload_n (pc := 4) (i := 1) (tX0_tabled.at 2 rfl) rfl rfl ?_
  refine r_bipush (pc := 5) (w := nI 6) (tX0_tabled.at 3 rfl) (by decide) ?_
  first | refine r_imulN (pc := 7) (tX0_tabled.at 4 rfl) ?_ | refine r_imulZ (pc := 7) (tX0_tabled.at 4 rfl) ?_ | refine r_imul (pc := 7) (tX0_tabled.at 4 rfl) ?_
  refine r_iload_n (pc := 8) (i := 2) (tX0_tabled.at 5 rfl) rfl rfl ?_
  first | refine r_iaddN (pc := 9) (tX0_tabled.at 6 rfl) ?_ | refine r_iaddZ (pc := 9) (tX0_tabled.at 6 rfl) ?_ | refine r_iadd (pc := 9) (tX0_tabled.at 6 rfl) ?_
  refine r_iald (pc := 10) (tX0_tabled.at 7 rfl) (hT) (x * 6 + y) (rfl) (by omega) (Nat.le_of_ble_eq_true rfl) ?_
  refine r_iret (pc := 11) (tX0_tabled.at 8 rfl) rfl (Nat.le_of_ble_eq_true rfl) (Nat.le_of_ble_eq_true rfl) ?_
  exact ⟨rfl, rfl, rfl⟩
def coH (v : Ev) (h : Hp) (q : Nat) : Hp := hp (hp (hp h q (ob 0 [.ref (q + 1), .ref (q + 2)])) (q + 1) (aI v 16 (sF (fun _ => 0)))) (q + 2) (aI v 36 (iF (fun _ => 0)))
theorem c_coInit {v : Ev} {h : Hp} {q : Nat} (hq : h q = some (ob 0 [.null, .null])) : Cal v mX0_init 1 2 52 [.ref q] h (q + 1) (pT (coH v h q) (q + 3)) noX := by
  refine Cal.ofJ (by decide +kernel) rfl (Nat.le_of_ble_eq_true rfl) fun hz0 => ?_
  refine r_ls [some (.ref q)] rfl ?_
  refine r_aload_n (pc := 0) (i := 0) (tX0_init.at 0 rfl) rfl rfl ?_
  refine r_objInit (pc := 1) (tX0_init.at 1 rfl) ml_X0_3 oi_inst oi_code (Nat.le_of_ble_eq_true rfl) (Nat.le_of_ble_eq_true rfl) ?_
  refine r_aload_n (pc := 4) (i := 0) (tX0_init.at 2 rfl) rfl rfl ?_
  refine r_bipush (pc := 5) (w := nI 16) (tX0_init.at 3 rfl) (by decide) ?_
  refine r_newaI (pc := 7) (16) (tX0_init.at 4 rfl) (rfl) (Nat.le_of_ble_eq_true rfl) ac_int (Nat.le_of_ble_eq_true rfl) (Nat.le_of_ble_eq_true rfl) (fun fr7 => ?_)
  refine r_putF (pc := 9) (tX0_init.at 5 rfl) pff_X0_9 rfl ((hp_ne _ _ (by omega)).trans hq) (Nat.le_of_ble_eq_true rfl) rfl rfl ?_
  refine r_aload_n (pc := 12) (i := 0) (tX0_init.at 6 rfl) rfl rfl ?_
  refine r_bipush (pc := 13) (w := nI 36) (tX0_init.at 7 rfl) (by decide) ?_
  refine r_newaI (pc := 15) (36) (tX0_init.at 8 rfl) (rfl) (Nat.le_of_ble_eq_true rfl) ac_int (Nat.le_of_ble_eq_true rfl) (Nat.le_of_ble_eq_true rfl) (fun fr15 => ?_)
  refine r_putF (pc := 17) (tX0_init.at 9 rfl) pff_X0_15 rfl ((hp_ne _ _ (by omega)).trans (hp_eq _ _ _)) (Nat.le_of_ble_eq_true rfl) rfl rfl ?_
  refine r_vret (pc := 20) (tX0_init.at 10 rfl) rfl (Nat.le_of_ble_eq_true rfl) (Nat.le_of_ble_eq_true rfl) ?_
  refine ⟨rfl, ?_, rfl⟩
  funext a
  unfold coH hp
  by_cases e1 : a = q
  · subst e1
    simp
  · by_cases e2 : a = q + 1
    · subst e2
      simp
      rfl
    · by_cases e3 : a = q + 2
      · subst e3
        simp
        rfl
      · simp [e1, e2, e3]

