/-! ===== ints told by Int; Graph: edges, clear, copyFrom, init ===== -/
def zI (z : Int) : Int32 := Int32.ofInt z
def inI (z : Int) : Prop := -2147483648 ≤ z ∧ z ≤ 2147483647
theorem zI_nat (k : Nat) : zI (k : Int) = nI k := Int32.ofInt_eq_ofNat
theorem zI_toInt {z : Int} (h : inI z) : (zI z).toInt = z := Int32.toInt_ofInt_of_le (by have := h.1; omega) (by have := h.2; omega)
theorem zI_lt {a b : Int} (ha : inI a) (hb : inI b) : zI a < zI b ↔ a < b := by rw [Int32.lt_iff_toInt_lt, zI_toInt ha, zI_toInt hb]
theorem zI_le {a b : Int} (ha : inI a) (hb : inI b) : zI a ≤ zI b ↔ a ≤ b := by rw [Int32.le_iff_toInt_le, zI_toInt ha, zI_toInt hb]
theorem zI_eq {a b : Int} (ha : inI a) (hb : inI b) : zI a = zI b ↔ a = b := by rw [← Int32.toInt_inj, zI_toInt ha, zI_toInt hb]
theorem zI_add (a b : Int) : zI a + zI b = zI (a + b) := (Int32.ofInt_add a b).symm
theorem zI_sub (a b : Int) : zI a - zI b = zI (a - b) := (Int32.ofInt_sub a b).symm
theorem zI_mul (a b : Int) : zI a * zI b = zI (a * b) := (Int32.ofInt_mul a b).symm
theorem zI_neg (a : Int) : -zI a = zI (-a) := (Int32.ofInt_neg a).symm
theorem zI_toInt64 {z : Int} (h : inI z) : (zI z).toInt64 = lI z := by
  rw [← Int64.ofInt_int32ToInt, zI_toInt h]
  rfl
theorem lI_toInt32Z (z : Int) : (lI z).toInt32 = zI z := Int64.toInt32_ofInt
theorem nI_subZ {a b : Nat} (h : b ≤ a) : nI a - nI b = nI (a - b) := pk_sub h
theorem mminN {a b : Nat} (ha : a < 2147483648) (hb : b < 2147483648) : (if nI b < nI a then nI b else nI a) = nI (min a b) := by
  by_cases q : b < a
  · rw [if_pos ((nI_lt_iff hb ha).mpr q), Nat.min_eq_right (by omega)]
  · rw [if_neg (fun z => q ((nI_lt_iff hb ha).mp z)), Nat.min_eq_left (by omega)]
theorem mmaxN {a b : Nat} (ha : a < 2147483648) (hb : b < 2147483648) : (if nI a < nI b then nI b else nI a) = nI (max a b) := by
  by_cases q : a < b
  · rw [if_pos ((nI_lt_iff ha hb).mpr q), Nat.max_eq_right (by omega)]
  · rw [if_neg (fun z => q ((nI_lt_iff ha hb).mp z)), Nat.max_eq_left (by omega)]
theorem mminZ {a b : Int} (ha : inI a) (hb : inI b) : (if zI b < zI a then zI b else zI a) = zI (min a b) := by
  by_cases q : b < a
  · rw [if_pos ((zI_lt hb ha).mpr q), Int.min_eq_right (by omega)]
  · rw [if_neg (fun z => q ((zI_lt hb ha).mp z)), Int.min_eq_left (by omega)]
theorem mmaxZ {a b : Int} (ha : inI a) (hb : inI b) : (if zI a < zI b then zI b else zI a) = zI (max a b) := by
  by_cases q : a < b
  · rw [if_pos ((zI_lt ha hb).mpr q), Int.max_eq_right (by omega)]
  · rw [if_neg (fun z => q ((zI_lt ha hb).mp z)), Int.max_eq_left (by omega)]
section
variable {v : Ev} {M : Md} {R : Room} {K : List Frame → Array Value → State → State → Prop} {t0 cells slots : Nat} {h : Hp} {top pc : Nat} {ls : List (Option Value)} {st : List Value}
theorem r_mminN {idx : Nat} {a b : Nat} (d : decode M.2.1 pc = .ok (.invokestatic idx, 3)) (w1 : Cond.methodLink M.1.cls idx Lib.Math.min.name ∈ big) (w2 : Cond.static Lib.Math.min.name ∈ big) (w3 : Cond.initialized "java/lang/Math" ∈ big) (w4 : Cond.code Lib.Math.min.name Lib.Math.min.code 2 (some .int) ∈ big) (hf : 1 ≤ R.frames) (hl2 : (st.map fun w => w.category).sum + 13 ≤ R.locals) (hc : cells ≤ R.cells) (hs : slots ≤ R.slots) (ha : a < 2147483648) (hb : b < 2147483648) (kk : J v M R K t0 cells slots h top (pc + 3) ls (.int (nI (min a b)) :: st)) : J v M R K t0 cells slots h top pc ls (.int (nI b) :: .int (nI a) :: st) := r_mmin d w1 w2 w3 w4 hf hl2 hc hs (by rw [mminN ha hb]; exact kk)
theorem r_mminZ {idx : Nat} {a b : Int} (d : decode M.2.1 pc = .ok (.invokestatic idx, 3)) (w1 : Cond.methodLink M.1.cls idx Lib.Math.min.name ∈ big) (w2 : Cond.static Lib.Math.min.name ∈ big) (w3 : Cond.initialized "java/lang/Math" ∈ big) (w4 : Cond.code Lib.Math.min.name Lib.Math.min.code 2 (some .int) ∈ big) (hf : 1 ≤ R.frames) (hl2 : (st.map fun w => w.category).sum + 13 ≤ R.locals) (hc : cells ≤ R.cells) (hs : slots ≤ R.slots) (ha : inI a) (hb : inI b) (kk : J v M R K t0 cells slots h top (pc + 3) ls (.int (zI (min a b)) :: st)) : J v M R K t0 cells slots h top pc ls (.int (zI b) :: .int (zI a) :: st) := r_mmin d w1 w2 w3 w4 hf hl2 hc hs (by rw [mminZ ha hb]; exact kk)
theorem r_mmaxN {idx : Nat} {a b : Nat} (d : decode M.2.1 pc = .ok (.invokestatic idx, 3)) (w1 : Cond.methodLink M.1.cls idx Lib.Math.max.name ∈ big) (w2 : Cond.static Lib.Math.max.name ∈ big) (w3 : Cond.initialized "java/lang/Math" ∈ big) (w4 : Cond.code Lib.Math.max.name Lib.Math.max.code 2 (some .int) ∈ big) (hf : 1 ≤ R.frames) (hl2 : (st.map fun w => w.category).sum + 13 ≤ R.locals) (hc : cells ≤ R.cells) (hs : slots ≤ R.slots) (ha : a < 2147483648) (hb : b < 2147483648) (kk : J v M R K t0 cells slots h top (pc + 3) ls (.int (nI (max a b)) :: st)) : J v M R K t0 cells slots h top pc ls (.int (nI b) :: .int (nI a) :: st) := r_mmax d w1 w2 w3 w4 hf hl2 hc hs (by rw [mmaxN ha hb]; exact kk)
theorem r_mmaxZ {idx : Nat} {a b : Int} (d : decode M.2.1 pc = .ok (.invokestatic idx, 3)) (w1 : Cond.methodLink M.1.cls idx Lib.Math.max.name ∈ big) (w2 : Cond.static Lib.Math.max.name ∈ big) (w3 : Cond.initialized "java/lang/Math" ∈ big) (w4 : Cond.code Lib.Math.max.name Lib.Math.max.code 2 (some .int) ∈ big) (hf : 1 ≤ R.frames) (hl2 : (st.map fun w => w.category).sum + 13 ≤ R.locals) (hc : cells ≤ R.cells) (hs : slots ≤ R.slots) (ha : inI a) (hb : inI b) (kk : J v M R K t0 cells slots h top (pc + 3) ls (.int (zI (max a b)) :: st)) : J v M R K t0 cells slots h top pc ls (.int (zI b) :: .int (zI a) :: st) := r_mmax d w1 w2 w3 w4 hf hl2 hc hs (by rw [mmaxZ ha hb]; exact kk)
theorem r_icmp_eqZ {a b : Int} {off : Int} (tgt : Nat) (d : decode M.2.1 pc = .ok (.if_icmp .eq off, 3)) (ht : (pc : Int) + off = (tgt : Int)) (ha : inI a) (hb : inI b) (kt : a = b → J v M R K t0 cells slots h top tgt ls st) (kf : a ≠ b → J v M R K t0 cells slots h top (pc + 3) ls st) : J v M R K t0 cells slots h top pc ls (.int (zI b) :: .int (zI a) :: st) := by
  exact r_icmp_eq tgt d ht (fun q => kt ((zI_eq ha hb).mp q)) (fun q => kf (fun z => q ((zI_eq ha hb).mpr z)))
theorem r_icmp_neZ {a b : Int} {off : Int} (tgt : Nat) (d : decode M.2.1 pc = .ok (.if_icmp .ne off, 3)) (ht : (pc : Int) + off = (tgt : Int)) (ha : inI a) (hb : inI b) (kt : a ≠ b → J v M R K t0 cells slots h top tgt ls st) (kf : a = b → J v M R K t0 cells slots h top (pc + 3) ls st) : J v M R K t0 cells slots h top pc ls (.int (zI b) :: .int (zI a) :: st) := by
  exact r_icmp_ne tgt d ht (fun q => kt (fun z => q ((zI_eq ha hb).mpr z))) (fun q => kf ((zI_eq ha hb).mp (Decidable.not_not.mp (by simpa using q))))
theorem r_icmp_ltZ {a b : Int} {off : Int} (tgt : Nat) (d : decode M.2.1 pc = .ok (.if_icmp .lt off, 3)) (ht : (pc : Int) + off = (tgt : Int)) (ha : inI a) (hb : inI b) (kt : a < b → J v M R K t0 cells slots h top tgt ls st) (kf : b ≤ a → J v M R K t0 cells slots h top (pc + 3) ls st) : J v M R K t0 cells slots h top pc ls (.int (zI b) :: .int (zI a) :: st) := by
  exact r_icmp_lt tgt d ht (fun q => kt ((zI_lt ha hb).mp q)) (fun q => kf (Int.not_lt.mp (fun z => q ((zI_lt ha hb).mpr z))))
theorem r_icmp_geZ {a b : Int} {off : Int} (tgt : Nat) (d : decode M.2.1 pc = .ok (.if_icmp .ge off, 3)) (ht : (pc : Int) + off = (tgt : Int)) (ha : inI a) (hb : inI b) (kt : b ≤ a → J v M R K t0 cells slots h top tgt ls st) (kf : a < b → J v M R K t0 cells slots h top (pc + 3) ls st) : J v M R K t0 cells slots h top pc ls (.int (zI b) :: .int (zI a) :: st) := by
  exact r_icmp_ge tgt d ht (fun q => kt ((zI_le hb ha).mp q)) (fun q => kf (Int.not_le.mp (fun z => q ((zI_le hb ha).mpr z))))
theorem r_icmp_gtZ {a b : Int} {off : Int} (tgt : Nat) (d : decode M.2.1 pc = .ok (.if_icmp .gt off, 3)) (ht : (pc : Int) + off = (tgt : Int)) (ha : inI a) (hb : inI b) (kt : b < a → J v M R K t0 cells slots h top tgt ls st) (kf : a ≤ b → J v M R K t0 cells slots h top (pc + 3) ls st) : J v M R K t0 cells slots h top pc ls (.int (zI b) :: .int (zI a) :: st) := by
  exact r_icmp_gt tgt d ht (fun q => kt ((zI_lt hb ha).mp q)) (fun q => kf (Int.not_lt.mp (fun z => q ((zI_lt hb ha).mpr z))))
theorem r_icmp_leZ {a b : Int} {off : Int} (tgt : Nat) (d : decode M.2.1 pc = .ok (.if_icmp .le off, 3)) (ht : (pc : Int) + off = (tgt : Int)) (ha : inI a) (hb : inI b) (kt : a ≤ b → J v M R K t0 cells slots h top tgt ls st) (kf : b < a → J v M R K t0 cells slots h top (pc + 3) ls st) : J v M R K t0 cells slots h top pc ls (.int (zI b) :: .int (zI a) :: st) := by
  exact r_icmp_le tgt d ht (fun q => kt ((zI_le ha hb).mp q)) (fun q => kf (Int.not_le.mp (fun z => q ((zI_le ha hb).mpr z))))
end
theorem iF_fil (f : Nat → Nat) (n x : Nat) : filF (iF f) n (nI x) = iF (filF f n x) := by
  funext k
  show (if k < n then nI x else nI (f k)) = nI (if k < n then x else f k)
  split <;> rfl
def GT.addE (G : GT) (a b w : Nat) : GT := (((G.sL (upN G.L G.e (min a b))).sH (upN G.H G.e (max a b))).sc G.n (G.e + 1) G.a G.b).sW (pWt G.W a b w)
theorem c_putE {v : Ev} {h : Hp} {top g : Nat} {G : GT} (he : G.e < 15) {a b w : Nat} (ha : a < 6) (hb : b < 6) : Cal v mX3_putEdge 2 0 0 [.ref g, .int (nI a), .int (nI b), .int (nI w)] (gH v h g G) top (pV (gH v h g (G.addE a b w)) top) noX := by
  refine Cal.ofJ (by decide +kernel) rfl (Nat.le_of_ble_eq_true rfl) fun hz0 => ?_
  refine r_ls [some (.ref g), some (.int (nI a)), some (.int (nI b)), some (.int (nI w))] rfl ?_
  have hg := gH_is v h g G
  refine r_aload_n (pc := 0) (i := 0) (tX3_putEdge.at 0 rfl) rfl rfl ?_
  refine r_get (pc := 1) (tX3_putEdge.at 1 rfl) gf_X3_15 (hg.1) rfl ?_
  refine r_bipush (pc := 4) (w := nI 15) (tX3_putEdge.at 2 rfl) (by decide) ?_
  refine r_icmp_geN (pc := 6) 54 (tX3_putEdge.at 3 rfl) (by decide) (by omega) (by omega) (fun c => by omega) (fun _ => ?_)
  refine r_aload_n (pc := 9) (i := 0) (tX3_putEdge.at 4 rfl) rfl rfl ?_
  refine r_get (pc := 10) (tX3_putEdge.at 5 rfl) gf_X3_24 (hg.1) rfl ?_
  refine r_aload_n (pc := 13) (i := 0) (tX3_putEdge.at 6 rfl) rfl rfl ?_
  refine r_get (pc := 14) (tX3_putEdge.at 7 rfl) gf_X3_15 (hg.1) rfl ?_
  refine r_iload_n (pc := 17) (i := 1) (tX3_putEdge.at 8 rfl) rfl rfl ?_
  refine r_iload_n (pc := 18) (i := 2) (tX3_putEdge.at 9 rfl) rfl rfl ?_
  first | refine r_mminN (pc := 19) (tX3_putEdge.at 10 rfl) ml_X3_52 mw_min_s mw_math mw_min_c (Nat.le_of_ble_eq_true rfl) (Nat.le_of_ble_eq_true rfl) (Nat.le_of_ble_eq_true rfl) (Nat.le_of_ble_eq_true rfl) (by omega) (by omega) ?_ | refine r_mminZ (pc := 19) (tX3_putEdge.at 10 rfl) ml_X3_52 mw_min_s mw_math mw_min_c (Nat.le_of_ble_eq_true rfl) (Nat.le_of_ble_eq_true rfl) (Nat.le_of_ble_eq_true rfl) (Nat.le_of_ble_eq_true rfl) ⟨by omega, by omega⟩ ⟨by omega, by omega⟩ ?_ | refine r_mmin (pc := 19) (tX3_putEdge.at 10 rfl) ml_X3_52 mw_min_s mw_math mw_min_c (Nat.le_of_ble_eq_true rfl) (Nat.le_of_ble_eq_true rfl) (Nat.le_of_ble_eq_true rfl) (Nat.le_of_ble_eq_true rfl) ?_
  refine r_iast (pc := 22) (tX3_putEdge.at 11 rfl) (hg.2.1) (G.e) (rfl) (by omega) (Nat.le_of_ble_eq_true rfl) ?_
  rw [upd_iF, gH_pL]
  have hg := gH_is v h g (G.sL (upN G.L G.e (min a b)))
  refine r_aload_n (pc := 23) (i := 0) (tX3_putEdge.at 12 rfl) rfl rfl ?_
  refine r_get (pc := 24) (tX3_putEdge.at 13 rfl) gf_X3_28 (hg.1) rfl ?_
  refine r_aload_n (pc := 27) (i := 0) (tX3_putEdge.at 14 rfl) rfl rfl ?_
  refine r_get (pc := 28) (tX3_putEdge.at 15 rfl) gf_X3_15 (hg.1) rfl ?_
  refine r_iload_n (pc := 31) (i := 1) (tX3_putEdge.at 16 rfl) rfl rfl ?_
  refine r_iload_n (pc := 32) (i := 2) (tX3_putEdge.at 17 rfl) rfl rfl ?_
  first | refine r_mmaxN (pc := 33) (tX3_putEdge.at 18 rfl) ml_X3_58 mw_max_s mw_math mw_max_c (Nat.le_of_ble_eq_true rfl) (Nat.le_of_ble_eq_true rfl) (Nat.le_of_ble_eq_true rfl) (Nat.le_of_ble_eq_true rfl) (by omega) (by omega) ?_ | refine r_mmaxZ (pc := 33) (tX3_putEdge.at 18 rfl) ml_X3_58 mw_max_s mw_math mw_max_c (Nat.le_of_ble_eq_true rfl) (Nat.le_of_ble_eq_true rfl) (Nat.le_of_ble_eq_true rfl) (Nat.le_of_ble_eq_true rfl) ⟨by omega, by omega⟩ ⟨by omega, by omega⟩ ?_ | refine r_mmax (pc := 33) (tX3_putEdge.at 18 rfl) ml_X3_58 mw_max_s mw_math mw_max_c (Nat.le_of_ble_eq_true rfl) (Nat.le_of_ble_eq_true rfl) (Nat.le_of_ble_eq_true rfl) (Nat.le_of_ble_eq_true rfl) ?_
  refine r_iast (pc := 36) (tX3_putEdge.at 19 rfl) (hg.2.2.1) (G.e) (rfl) (he) (Nat.le_of_ble_eq_true rfl) ?_
  rw [upd_iF, gH_pH]
  have hg := gH_is v h g ((G.sL (upN G.L G.e (min a b))).sH (upN G.H G.e (max a b)))
  refine r_aload_n (pc := 37) (i := 0) (tX3_putEdge.at 20 rfl) rfl rfl ?_
  refine r_dup (pc := 38) (tX3_putEdge.at 21 rfl) rfl ?_
  refine r_get (pc := 39) (tX3_putEdge.at 22 rfl) gf_X3_15 (hg.1) rfl ?_
  refine r_iconst (pc := 42) (w := nI 1) (tX3_putEdge.at 23 rfl) (by decide) ?_
  first | refine r_iaddN (pc := 43) (tX3_putEdge.at 24 rfl) ?_ | refine r_iadd (pc := 43) (tX3_putEdge.at 24 rfl) ?_
  refine r_put (pc := 44) (tX3_putEdge.at 25 rfl) pf_X3_15 (hg.1) (Nat.le_of_ble_eq_true rfl) (rfl) (rfl) ?_
  refine r_eq (gH_p0 ((G.sL (upN G.L G.e (min a b))).sH (upN G.H G.e (max a b))) G.n (G.e + 1) G.a G.b) rfl ?_
  have hg := gH_is v h g (((G.sL (upN G.L G.e (min a b))).sH (upN G.H G.e (max a b))).sc G.n (G.e + 1) G.a G.b)
  refine r_aload_n (pc := 47) (i := 0) (tX3_putEdge.at 26 rfl) rfl rfl ?_
  refine r_iload_n (pc := 48) (i := 1) (tX3_putEdge.at 27 rfl) rfl rfl ?_
  refine r_iload_n (pc := 49) (i := 2) (tX3_putEdge.at 28 rfl) rfl rfl ?_
  refine r_iload_n (pc := 50) (i := 3) (tX3_putEdge.at 29 rfl) rfl rfl ?_
  refine r_callV (M' := mX3_putWeight) (pc := 51) (tX3_putEdge.at 30 rfl) ml_X3_67 rfl mw_X3_putWeight ⟨by decide, by decide⟩ (hg.1) rfl rfl (c_putW2 (w := w) ha hb) rfl rfl (Nat.le_of_ble_eq_true rfl) (Nat.le_of_ble_eq_true rfl) (Nat.le_of_ble_eq_true rfl) ?_
  rintro _ _ _ ⟨rfl, rfl, rfl⟩
  refine r_vret (pc := 54) (tX3_putEdge.at 31 rfl) rfl (Nat.le_of_ble_eq_true rfl) (Nat.le_of_ble_eq_true rfl) ?_
  exact ⟨rfl, rfl, rfl⟩
/-- the row without the place i, the last place is then m -/
def shN (f : Nat → Nat) (i m : Nat) : Nat → Nat := fun k => if i ≤ k ∧ k < m then f (k + 1) else f k
theorem shN_0 (f : Nat → Nat) (i : Nat) : shN f i i = f := by
  funext k
  unfold shN
  rw [if_neg (by omega)]
theorem shN_s (f : Nat → Nat) {i m : Nat} (hm : i ≤ m) : upN (shN f i m) m (f (m + 1)) = shN f i (m + 1) := by
  funext k
  unfold upN shN
  by_cases h1 : k = m
  · rw [if_pos h1, if_pos (by omega), h1]
  · rw [if_neg h1]
    by_cases h2 : i ≤ k ∧ k < m
    · rw [if_pos h2, if_pos (by omega)]
    · rw [if_neg h2, if_neg (by omega)]
def GT.rmE (G : GT) (i : Nat) : GT := (((G.sW (pWt G.W (G.L i) (G.H i) 0)).sc G.n (G.e - 1) G.a G.b).sL (shN G.L i (G.e - 1))).sH (shN G.H i (G.e - 1))
def GT.clr (v : Ev) (G : GT) (n : Nat) : GT := (((G.sW (filF G.W 36 0)).sB (filF G.B 0 0)).sc n 0 0 n).sF (oA v 0)
def idB (B : Nat → Nat) (u : Nat) : Nat → Nat := fun k => if k < u then k else B k
theorem idB_s (B : Nat → Nat) (u : Nat) : upN (idB B u) u u = idB B (u + 1) := by
  funext k
  unfold upN idB
  by_cases h1 : k = u
  · rw [if_pos h1, if_pos (by omega), h1]
  · rw [if_neg h1]
    by_cases h2 : k < u
    · rw [if_pos h2, if_pos (by omega)]
    · rw [if_neg h2, if_neg (by omega)]
theorem idB_0 (B : Nat → Nat) : idB B 0 = B := by
  funext k
  unfold idB
  rw [if_neg (by omega)]
def GT.cl0 (v : Ev) (G : GT) (n u : Nat) : GT := (((G.sc n 0 0 n).sF (oA v 0)).sW (filF G.W 36 0)).sB (idB G.B u)
theorem c_clear {v : Ev} {h : Hp} {top g : Nat} {G : GT} {n : Nat} (hn : n ≤ 6) : Cal v mX3_clear 2 0 0 [.ref g, .int (nI n)] (gH v h g G) top (pV (gH v h g (G.cl0 v n 6)) top) noX := by
  refine Cal.ofJ (by decide +kernel) rfl (Nat.le_of_ble_eq_true rfl) fun hz0 => ?_
  refine r_ls [some (.ref g), some (.int (nI n)), none] rfl ?_
  have hg := gH_is v h g G
  refine r_aload_n (pc := 0) (i := 0) (tX3_clear.at 0 rfl) rfl rfl ?_
  refine r_iconst (pc := 1) (w := nI 0) (tX3_clear.at 1 rfl) (by decide) ?_
  refine r_bipush (pc := 2) (w := nI 6) (tX3_clear.at 2 rfl) (by decide) ?_
  refine r_iload_n (pc := 4) (i := 1) (tX3_clear.at 3 rfl) rfl rfl ?_
  first | refine r_mminN (pc := 5) (tX3_clear.at 4 rfl) ml_X3_52 mw_min_s mw_math mw_min_c (Nat.le_of_ble_eq_true rfl) (Nat.le_of_ble_eq_true rfl) (Nat.le_of_ble_eq_true rfl) (Nat.le_of_ble_eq_true rfl) (by omega) (by omega) ?_ | refine r_mminZ (pc := 5) (tX3_clear.at 4 rfl) ml_X3_52 mw_min_s mw_math mw_min_c (Nat.le_of_ble_eq_true rfl) (Nat.le_of_ble_eq_true rfl) (Nat.le_of_ble_eq_true rfl) (Nat.le_of_ble_eq_true rfl) ⟨by omega, by omega⟩ ⟨by omega, by omega⟩ ?_ | refine r_mmin (pc := 5) (tX3_clear.at 4 rfl) ml_X3_52 mw_min_s mw_math mw_min_c (Nat.le_of_ble_eq_true rfl) (Nat.le_of_ble_eq_true rfl) (Nat.le_of_ble_eq_true rfl) (Nat.le_of_ble_eq_true rfl) ?_
  first | refine r_mmaxN (pc := 8) (tX3_clear.at 5 rfl) ml_X3_58 mw_max_s mw_math mw_max_c (Nat.le_of_ble_eq_true rfl) (Nat.le_of_ble_eq_true rfl) (Nat.le_of_ble_eq_true rfl) (Nat.le_of_ble_eq_true rfl) (by omega) (by omega) ?_ | refine r_mmaxZ (pc := 8) (tX3_clear.at 5 rfl) ml_X3_58 mw_max_s mw_math mw_max_c (Nat.le_of_ble_eq_true rfl) (Nat.le_of_ble_eq_true rfl) (Nat.le_of_ble_eq_true rfl) (Nat.le_of_ble_eq_true rfl) ⟨by omega, by omega⟩ ⟨by omega, by omega⟩ ?_ | refine r_mmax (pc := 8) (tX3_clear.at 5 rfl) ml_X3_58 mw_max_s mw_math mw_max_c (Nat.le_of_ble_eq_true rfl) (Nat.le_of_ble_eq_true rfl) (Nat.le_of_ble_eq_true rfl) (Nat.le_of_ble_eq_true rfl) ?_
  rw [show max 0 (min 6 n) = n by omega]
  refine r_put (pc := 11) (tX3_clear.at 6 rfl) pf_X3_9 (hg.1) (Nat.le_of_ble_eq_true rfl) (rfl) (rfl) ?_
  refine r_eq (gH_p0 G n G.e G.a G.b) rfl ?_
  have hg := gH_is v h g (G.sc n G.e G.a G.b)
  refine r_aload_n (pc := 14) (i := 0) (tX3_clear.at 7 rfl) rfl rfl ?_
  refine r_iconst (pc := 15) (w := nI 0) (tX3_clear.at 8 rfl) (by decide) ?_
  refine r_put (pc := 16) (tX3_clear.at 9 rfl) pf_X3_15 (hg.1) (Nat.le_of_ble_eq_true rfl) (rfl) (rfl) ?_
  refine r_eq (gH_p0 (G.sc n G.e G.a G.b) n 0 G.a G.b) rfl ?_
  have hg := gH_is v h g ((G.sc n G.e G.a G.b).sc n 0 G.a G.b)
  refine r_aload_n (pc := 19) (i := 0) (tX3_clear.at 10 rfl) rfl rfl ?_
  refine r_iconst (pc := 20) (w := nI 0) (tX3_clear.at 11 rfl) (by decide) ?_
  refine r_put (pc := 21) (tX3_clear.at 12 rfl) pf_X3_18 (hg.1) (Nat.le_of_ble_eq_true rfl) (rfl) (rfl) ?_
  refine r_eq (gH_p0 ((G.sc n G.e G.a G.b).sc n 0 G.a G.b) n 0 0 G.b) rfl ?_
  have hg := gH_is v h g (((G.sc n G.e G.a G.b).sc n 0 G.a G.b).sc n 0 0 G.b)
  refine r_aload_n (pc := 24) (i := 0) (tX3_clear.at 13 rfl) rfl rfl ?_
  refine r_aload_n (pc := 25) (i := 0) (tX3_clear.at 14 rfl) rfl rfl ?_
  refine r_get (pc := 26) (tX3_clear.at 15 rfl) gf_X3_9 (hg.1) rfl ?_
  refine r_put (pc := 29) (tX3_clear.at 16 rfl) pf_X3_21 (hg.1) (Nat.le_of_ble_eq_true rfl) (rfl) (rfl) ?_
  refine r_eq (gH_p0 (((G.sc n G.e G.a G.b).sc n 0 G.a G.b).sc n 0 0 G.b) n 0 0 n) rfl ?_
  have hg := gH_is v h g (G.sc n 0 0 n)
  refine r_aload_n (pc := 32) (i := 0) (tX3_clear.at 17 rfl) rfl rfl ?_
  refine r_getCost (pc := 33) (tX3_clear.at 18 rfl) fn_X3_40 ?_
  refine r_put (pc := 36) (tX3_clear.at 19 rfl) pf_X3_43 (hg.1) (Nat.le_of_ble_eq_true rfl) (rfl) (rfl) ?_
  refine r_eq (gH_pF (G.sc n 0 0 n) (oA v 0)) rfl ?_
  have hg := gH_is v h g ((G.sc n 0 0 n).sF (oA v 0))
  refine r_aload_n (pc := 39) (i := 0) (tX3_clear.at 20 rfl) rfl rfl ?_
  refine r_get (pc := 40) (tX3_clear.at 21 rfl) gf_X3_31 (hg.1) rfl ?_
  refine r_iconst (pc := 43) (w := nI 0) (tX3_clear.at 22 rfl) (by decide) ?_
  refine r_callS (M' := mJ7_fill_53178) (pc := 44) (tX3_clear.at 23 rfl) ml_X3_61 rfl mw_J7_fill_53178 ⟨by decide, by decide⟩ (c_fillI (x := nI 0) hg.2.2.2.1 (by omega)) rfl rfl (Nat.le_of_ble_eq_true rfl) (Nat.le_of_ble_eq_true rfl) (Nat.le_of_ble_eq_true rfl) ?_
  rintro _ _ _ ⟨rfl, rfl, rfl⟩
  rw [iF_fil, gH_pW]
  refine r_iconst (pc := 47) (w := nI 0) (tX3_clear.at 24 rfl) (by decide) ?_
  refine r_istore_n (pc := 48) (i := 2) (tX3_clear.at 25 rfl) rfl (by decide) ?_
  refine r_eq (h2 := gH v h g (G.cl0 v n 0)) (by unfold GT.cl0; rw [idB_0]; rfl) rfl ?_
  refine down (n := 6) (P := fun u => J v mX3_clear (rmOf 2 0 0) (KM v (pV (gH v h g (G.cl0 v n 6)) top) noX 0 0) top 0 0 (gH v h g (G.cl0 v n u)) top 49 [some (.ref g), some (.int (nI n)), some (.int (nI u))] []) ?_ ?_ 0 (by omega)
  · refine r_iload_n (pc := 49) (i := 2) (tX3_clear.at 26 rfl) rfl rfl ?_
    refine r_bipush (pc := 50) (w := nI 6) (tX3_clear.at 27 rfl) (by decide) ?_
    refine r_icmp_geN (pc := 52) 68 (tX3_clear.at 28 rfl) (by decide) (by omega) (by omega) (fun _ => ?_) (fun c => by omega)
    refine r_vret (pc := 68) (tX3_clear.at 36 rfl) rfl (Nat.le_of_ble_eq_true rfl) (Nat.le_of_ble_eq_true rfl) ?_
    exact ⟨rfl, rfl, rfl⟩
  · intro u hu ih
    have hg := gH_is v h g (G.cl0 v n u)
    refine r_iload_n (pc := 49) (i := 2) (tX3_clear.at 26 rfl) rfl rfl ?_
    refine r_bipush (pc := 50) (w := nI 6) (tX3_clear.at 27 rfl) (by decide) ?_
    refine r_icmp_geN (pc := 52) 68 (tX3_clear.at 28 rfl) (by decide) (by omega) (by omega) (fun c => by omega) (fun _ => ?_)
    refine r_aload_n (pc := 55) (i := 0) (tX3_clear.at 29 rfl) rfl rfl ?_
    refine r_get (pc := 56) (tX3_clear.at 30 rfl) gf_X3_34 (hg.1) rfl ?_
    refine r_iload_n (pc := 59) (i := 2) (tX3_clear.at 31 rfl) rfl rfl ?_
    refine r_iload_n (pc := 60) (i := 2) (tX3_clear.at 32 rfl) rfl rfl ?_
    refine r_iast (pc := 61) (tX3_clear.at 33 rfl) (hg.2.2.2.2.1) (u) (rfl) (by omega) (Nat.le_of_ble_eq_true rfl) ?_
    rw [upd_iF, show (G.cl0 v n u).B = idB G.B u from rfl, idB_s, gH_pB]
    first | refine r_iincN (pc := 62) (tX3_clear.at 34 rfl) rfl (by decide) ?_ | refine r_iinc (pc := 62) (tX3_clear.at 34 rfl) rfl rfl (by decide) ?_
    refine r_goto (pc := 65) 49 (tX3_clear.at 35 rfl) (by decide) ?_
    exact ih
def GT.cop (G X : GT) : GT := ((X.n, X.e, X.a, X.b), (cpF X.L G.L 15, cpF X.H G.H 15, cpF X.W G.W 36, cpF X.B G.B 6, G.O), X.F)
theorem c_copy {v : Ev} {h : Hp} {top g o : Nat} {G X : GT} (ho : isG v h o X) (hne : o + 6 ≤ g ∨ g + 6 ≤ o) : Cal v mX3_copyFrom 2 0 0 [.ref g, .ref o] (gH v h g G) top (pV (gH v h g (G.cop X)) top) noX := by
  have HO : ∀ Y : GT, isG v (gH v h g Y) o X := fun Y => ho.frame (fun q h1 h2 => gH_out v h g Y (by omega))
  refine Cal.ofJ (by decide +kernel) rfl (Nat.le_of_ble_eq_true rfl) fun hz0 => ?_
  refine r_ls [some (.ref g), some (.ref o)] rfl ?_
  have hg := gH_is v h g G
  have hx := HO G
  refine r_aload_n (pc := 0) (i := 0) (tX3_copyFrom.at 0 rfl) rfl rfl ?_
  refine r_aload_n (pc := 1) (i := 1) (tX3_copyFrom.at 1 rfl) rfl rfl ?_
  refine r_get (pc := 2) (tX3_copyFrom.at 2 rfl) gf_X3_9 (hx.1) rfl ?_
  refine r_put (pc := 5) (tX3_copyFrom.at 3 rfl) pf_X3_9 (hg.1) (Nat.le_of_ble_eq_true rfl) (rfl) (rfl) ?_
  refine r_eq (gH_p0 G X.n G.e G.a G.b) rfl ?_
  have hg := gH_is v h g (G.sc X.n G.e G.a G.b)
  have hx := HO (G.sc X.n G.e G.a G.b)
  refine r_aload_n (pc := 8) (i := 0) (tX3_copyFrom.at 4 rfl) rfl rfl ?_
  refine r_aload_n (pc := 9) (i := 1) (tX3_copyFrom.at 5 rfl) rfl rfl ?_
  refine r_get (pc := 10) (tX3_copyFrom.at 6 rfl) gf_X3_15 (hx.1) rfl ?_
  refine r_put (pc := 13) (tX3_copyFrom.at 7 rfl) pf_X3_15 (hg.1) (Nat.le_of_ble_eq_true rfl) (rfl) (rfl) ?_
  refine r_eq (gH_p0 (G.sc X.n G.e G.a G.b) X.n X.e G.a G.b) rfl ?_
  have hg := gH_is v h g (G.sc X.n X.e G.a G.b)
  have hx := HO (G.sc X.n X.e G.a G.b)
  refine r_aload_n (pc := 16) (i := 0) (tX3_copyFrom.at 8 rfl) rfl rfl ?_
  refine r_aload_n (pc := 17) (i := 1) (tX3_copyFrom.at 9 rfl) rfl rfl ?_
  refine r_get (pc := 18) (tX3_copyFrom.at 10 rfl) gf_X3_18 (hx.1) rfl ?_
  refine r_put (pc := 21) (tX3_copyFrom.at 11 rfl) pf_X3_18 (hg.1) (Nat.le_of_ble_eq_true rfl) (rfl) (rfl) ?_
  refine r_eq (gH_p0 (G.sc X.n X.e G.a G.b) X.n X.e X.a G.b) rfl ?_
  have hg := gH_is v h g (G.sc X.n X.e X.a G.b)
  have hx := HO (G.sc X.n X.e X.a G.b)
  refine r_aload_n (pc := 24) (i := 0) (tX3_copyFrom.at 12 rfl) rfl rfl ?_
  refine r_aload_n (pc := 25) (i := 1) (tX3_copyFrom.at 13 rfl) rfl rfl ?_
  refine r_get (pc := 26) (tX3_copyFrom.at 14 rfl) gf_X3_21 (hx.1) rfl ?_
  refine r_put (pc := 29) (tX3_copyFrom.at 15 rfl) pf_X3_21 (hg.1) (Nat.le_of_ble_eq_true rfl) (rfl) (rfl) ?_
  refine r_eq (gH_p0 (G.sc X.n X.e X.a G.b) X.n X.e X.a X.b) rfl ?_
  have hg := gH_is v h g (G.sc X.n X.e X.a X.b)
  have hx := HO (G.sc X.n X.e X.a X.b)
  refine r_aload_n (pc := 32) (i := 0) (tX3_copyFrom.at 16 rfl) rfl rfl ?_
  refine r_aload_n (pc := 33) (i := 1) (tX3_copyFrom.at 17 rfl) rfl rfl ?_
  refine r_get (pc := 34) (tX3_copyFrom.at 18 rfl) gf_X3_43 (hx.1) rfl ?_
  refine r_put (pc := 37) (tX3_copyFrom.at 19 rfl) pf_X3_43 (hg.1) (Nat.le_of_ble_eq_true rfl) (rfl) (rfl) ?_
  refine r_eq (gH_pF (G.sc X.n X.e X.a X.b) X.F) rfl ?_
  have hg := gH_is v h g ((G.sc X.n X.e X.a X.b).sF X.F)
  have hx := HO ((G.sc X.n X.e X.a X.b).sF X.F)
  refine r_aload_n (pc := 40) (i := 1) (tX3_copyFrom.at 20 rfl) rfl rfl ?_
  refine r_get (pc := 41) (tX3_copyFrom.at 21 rfl) gf_X3_24 (hx.1) rfl ?_
  refine r_iconst (pc := 44) (w := nI 0) (tX3_copyFrom.at 22 rfl) (by decide) ?_
  refine r_aload_n (pc := 45) (i := 0) (tX3_copyFrom.at 23 rfl) rfl rfl ?_
  refine r_get (pc := 46) (tX3_copyFrom.at 24 rfl) gf_X3_24 (hg.1) rfl ?_
  refine r_iconst (pc := 49) (w := nI 0) (tX3_copyFrom.at 25 rfl) (by decide) ?_
  refine r_bipush (pc := 50) (w := nI 15) (tX3_copyFrom.at 26 rfl) (by decide) ?_
  refine r_acopyI (pc := 52) _ (tX3_copyFrom.at 27 rfl) ml_X3_46 (hx.2.1) (hg.2.1) (by omega) rfl rfl rfl (Nat.le_of_ble_eq_true rfl) (Nat.le_of_ble_eq_true rfl) (Nat.le_of_ble_eq_true rfl) (Nat.le_refl _) (Nat.le_of_ble_eq_true rfl) (Nat.le_of_ble_eq_true rfl) ?_
  rw [iF_cpF, gH_pL]
  have hg := gH_is v h g (((G.sc X.n X.e X.a X.b).sF X.F).sL (cpF X.L G.L 15))
  have hx := HO (((G.sc X.n X.e X.a X.b).sF X.F).sL (cpF X.L G.L 15))
  refine r_aload_n (pc := 55) (i := 1) (tX3_copyFrom.at 28 rfl) rfl rfl ?_
  refine r_get (pc := 56) (tX3_copyFrom.at 29 rfl) gf_X3_28 (hx.1) rfl ?_
  refine r_iconst (pc := 59) (w := nI 0) (tX3_copyFrom.at 30 rfl) (by decide) ?_
  refine r_aload_n (pc := 60) (i := 0) (tX3_copyFrom.at 31 rfl) rfl rfl ?_
  refine r_get (pc := 61) (tX3_copyFrom.at 32 rfl) gf_X3_28 (hg.1) rfl ?_
  refine r_iconst (pc := 64) (w := nI 0) (tX3_copyFrom.at 33 rfl) (by decide) ?_
  refine r_bipush (pc := 65) (w := nI 15) (tX3_copyFrom.at 34 rfl) (by decide) ?_
  refine r_acopyI (pc := 67) _ (tX3_copyFrom.at 35 rfl) ml_X3_46 (hx.2.2.1) (hg.2.2.1) (by omega) rfl rfl rfl (Nat.le_of_ble_eq_true rfl) (Nat.le_of_ble_eq_true rfl) (Nat.le_of_ble_eq_true rfl) (Nat.le_refl _) (Nat.le_of_ble_eq_true rfl) (Nat.le_of_ble_eq_true rfl) ?_
  rw [iF_cpF, gH_pH]
  have hg := gH_is v h g ((((G.sc X.n X.e X.a X.b).sF X.F).sL (cpF X.L G.L 15)).sH (cpF X.H G.H 15))
  have hx := HO ((((G.sc X.n X.e X.a X.b).sF X.F).sL (cpF X.L G.L 15)).sH (cpF X.H G.H 15))
  refine r_aload_n (pc := 70) (i := 1) (tX3_copyFrom.at 36 rfl) rfl rfl ?_
  refine r_get (pc := 71) (tX3_copyFrom.at 37 rfl) gf_X3_31 (hx.1) rfl ?_
  refine r_iconst (pc := 74) (w := nI 0) (tX3_copyFrom.at 38 rfl) (by decide) ?_
  refine r_aload_n (pc := 75) (i := 0) (tX3_copyFrom.at 39 rfl) rfl rfl ?_
  refine r_get (pc := 76) (tX3_copyFrom.at 40 rfl) gf_X3_31 (hg.1) rfl ?_
  refine r_iconst (pc := 79) (w := nI 0) (tX3_copyFrom.at 41 rfl) (by decide) ?_
  refine r_bipush (pc := 80) (w := nI 36) (tX3_copyFrom.at 42 rfl) (by decide) ?_
  refine r_acopyI (pc := 82) _ (tX3_copyFrom.at 43 rfl) ml_X3_46 (hx.2.2.2.1) (hg.2.2.2.1) (by omega) rfl rfl rfl (Nat.le_of_ble_eq_true rfl) (Nat.le_of_ble_eq_true rfl) (Nat.le_of_ble_eq_true rfl) (Nat.le_refl _) (Nat.le_of_ble_eq_true rfl) (Nat.le_of_ble_eq_true rfl) ?_
  rw [iF_cpF, gH_pW]
  have hg := gH_is v h g (((((G.sc X.n X.e X.a X.b).sF X.F).sL (cpF X.L G.L 15)).sH (cpF X.H G.H 15)).sW (cpF X.W G.W 36))
  have hx := HO (((((G.sc X.n X.e X.a X.b).sF X.F).sL (cpF X.L G.L 15)).sH (cpF X.H G.H 15)).sW (cpF X.W G.W 36))
  refine r_aload_n (pc := 85) (i := 1) (tX3_copyFrom.at 44 rfl) rfl rfl ?_
  refine r_get (pc := 86) (tX3_copyFrom.at 45 rfl) gf_X3_34 (hx.1) rfl ?_
  refine r_iconst (pc := 89) (w := nI 0) (tX3_copyFrom.at 46 rfl) (by decide) ?_
  refine r_aload_n (pc := 90) (i := 0) (tX3_copyFrom.at 47 rfl) rfl rfl ?_
  refine r_get (pc := 91) (tX3_copyFrom.at 48 rfl) gf_X3_34 (hg.1) rfl ?_
  refine r_iconst (pc := 94) (w := nI 0) (tX3_copyFrom.at 49 rfl) (by decide) ?_
  refine r_bipush (pc := 95) (w := nI 6) (tX3_copyFrom.at 50 rfl) (by decide) ?_
  refine r_acopyI (pc := 97) _ (tX3_copyFrom.at 51 rfl) ml_X3_46 (hx.2.2.2.2.1) (hg.2.2.2.2.1) (by omega) rfl rfl rfl (Nat.le_of_ble_eq_true rfl) (Nat.le_of_ble_eq_true rfl) (Nat.le_of_ble_eq_true rfl) (Nat.le_refl _) (Nat.le_of_ble_eq_true rfl) (Nat.le_of_ble_eq_true rfl) ?_
  rw [iF_cpF, gH_pB]
  refine r_vret (pc := 100) (tX3_copyFrom.at 52 rfl) rfl (Nat.le_of_ble_eq_true rfl) (Nat.le_of_ble_eq_true rfl) ?_
  exact ⟨rfl, rfl, rfl⟩

