/-! ===== Spread ===== -/
section
variable {v : Ev} {M : Md} {R : Room} {K : List Frame → Array Value → State → State → Prop} {t0 cells slots : Nat} {h : Hp} {top pc : Nat} {ls : List (Option Value)} {st : List Value}
theorem r_acopyF {idx a0 a n0 n1 : Nat} {f g : Nat → UInt32} {x y z : Int32} (n : Nat) (d : decode M.2.1 pc = .ok (.invokestatic idx, 3)) (hlk : Cond.methodLink M.1.cls idx arraycopyName ∈ big) (ha0 : h a0 = some (aF v n0 f)) (ha1 : h a = some (aF v n1 g)) (ne : a0 ≠ a) (hx : x = nI n) (hy : y = nI 0) (hzz : z = nI 0) (h0 : n ≤ n0) (h1 : n ≤ n1) (hN : n ≤ 65536) (ht : t0 + cells ≤ top)
    (hf : 1 ≤ R.frames) (hl2 : (st.map fun w => w.category).sum + (nativeFrameWords "java/lang/System" "arraycopy" 5 + 11) ≤ R.locals)
    (kk : J v M R K t0 cells slots (hp h a (aF v n1 (cpF f g n))) top (pc + 3) ls st) : J v M R K t0 cells slots h top pc ls (.int x :: .int y :: .ref a :: .int z :: .ref a0 :: st) := by
  intro p l e s m args below meth c F H locs A hz hH hS hl
  obtain ⟨k0, hk0⟩ := List.getElem?_of_mem (wsOf_mem (h := h) (top := top) (q := (a0, aF v n0 f)) |>.mpr ⟨by rw [← hz]; exact hH.lt ha0, ha0⟩)
  obtain ⟨k1, hk1⟩ := List.getElem?_of_mem (wsOf_mem (h := h) (top := top) (q := (a, aF v n1 g)) |>.mpr ⟨by rw [← hz]; exact hH.lt ha1, ha1⟩)
  have hst : s.heap.size = t0 := by
    obtain ⟨-, -, -, -, -, -, -, -, -, q1, -⟩ := F
    exact q1
  subst hx; subst hy; subst hzz
  have c0 : (nI 0).toNatClampNeg = 0 := nI_clamp (by omega)
  have cn : (nI n).toNatClampNeg = n := nI_clamp (by omega)
  refine va_copyf F.1 F.2.1 (F.2.2.1.trans hl.1.symm) F.2.2.2.1 (F.ht _ hlk) (F.ht _ mw_acopy_n) (F.ht _ mw_acopy_s) (F.ht _ mw_system) F.bs.1 (wsOf_P hH) (wsOf_D (fun a e ha => (hH a e ha).1)) (H0 := H) ⟨Nat.le_refl _, fun _ _ _ => rfl, hS.2.2⟩ k0 k1 2 2 hk0 hk1 rfl rfl rfl (nI_pos (by omega)) (nI_pos (by omega)) (nI_pos (by omega)) (by rw [c0, cn]; omega) (by rw [c0, cn]; omega) (fun i _ => rfl) hf hl2 d ?_
  intro H1 locs1 hP1 _ hS1
  refine W_cap fun hcap => ?_
  rw [c0, cn, cpF_cpy] at hP1
  have hle := hS1.1
  exact kk p l e s m args below meth c F H1 locs1 A (by omega) (wsOf_set hH hz hk1 hP1) ⟨Nat.le_trans hS.1 hS1.1, fun q g1 g2 => (hS1.2.1 q (Nat.lt_of_lt_of_le g1 hS.1) g2).trans (hS.2.1 q g1 g2), hS1.2.2⟩ hl
end
theorem rd_b {w d : Nat} (hw : w < 10) (hd : 0 < d ∧ d < 55) : ∃ a b, rdA w d = (a : Nat) ∧ rdB w d = (b : Nat) ∧ a < 10 ∧ 0 < b ∧ b < 55 := by
  have hg : 0 < Nat.gcd w d := Nat.gcd_pos_of_pos_right _ hd.1
  have hdv : Nat.gcd w d ∣ d := Nat.gcd_dvd_right w d
  refine ⟨w / Nat.gcd w d, d / Nat.gcd w d, ?_, ?_, Nat.lt_of_le_of_lt (Nat.div_le_self _ _) hw, Nat.div_pos (Nat.le_of_dvd hd.1 hdv) hg, Nat.lt_of_le_of_lt (Nat.div_le_self _ _) hd.2⟩
  · show (w : Int).tdiv ((Int.gcd w d : Nat) : Int) = _
    rw [show Int.gcd w d = Nat.gcd w d from rfl, ← Int.ofNat_tdiv]
  · show (d : Int).tdiv ((Int.gcd w d : Nat) : Int) = _
    rw [show Int.gcd w d = Nat.gcd w d from rfl, ← Int.ofNat_tdiv]
theorem ch_b {W : Nat → Nat} {n x y : Nat} (hn : n ≤ 6) (hx : x < 6) (hy : y < 6) (hW : ∀ k, k < 36 → W k ≤ 9) : ∃ a b, chA W n x y = (a : Nat) ∧ chB W n x y = (b : Nat) ∧ a < 10 ∧ 0 < b ∧ b < 55 := by
  have hd := degN_le (x := x) hn hx hW
  have hw := hW (x * 6 + y) (by omega)
  unfold chA chB
  by_cases c : degN W x n = 0
  · rw [if_pos c, if_pos c]
    by_cases c2 : x = y
    · rw [if_pos c2]
      exact rd_b (w := 1) (d := 1) (by omega) (by omega)
    · rw [if_neg c2]
      exact rd_b (w := 0) (d := 1) (by omega) (by omega)
  · rw [if_neg c, if_neg c]
    exact rd_b (by omega) (by omega)
def fqT (W : Nat → Nat) (n x y : Nat) : UInt32 := fQ (chA W n x y).toNat (chB W n x y).toNat
/-- the chance of y a step later, over the first places -/
def flA (W : Nat → Nat) (n : Nat) (nw : Nat → UInt32) (y : Nat) : Nat → UInt32
  | 0 => FP.fconst0
  | x + 1 => if chA W n x y = 0 then flA W n nw y x else FP.fadd (flA W n nw y x) (FP.fmul (nw x) (fqT W n x y))
def flN (W : Nat → Nat) (n s : Nat) : Nat → Nat → UInt32
  | 0 => fun x => if x = s then FP.fconst1 else FP.fconst0
  | k + 1 => fun y => flA W n (flN W n s k) y n
theorem fqT_ok {W : Nat → Nat} {n x y : Nat} (hn : n ≤ 6) (hx : x < 6) (hy : y < 6) (hW : ∀ k, k < 36 → W k ≤ 9) : (fqT W n x y).toNat < 0x7f800000 ∧ (chA W n x y ≠ 0 → 0 < (fqT W n x y).toNat) ∧ Op.cmpValue (FP.fcmp (fqT W n x y) FP.fconst0) .l = (if chA W n x y = 0 then 0 else 1) ∧ FP.fdiv (FP.l2f (lI (chA W n x y))) (FP.l2f (lI (chB W n x y))) = fqT W n x y := by
  obtain ⟨a, b, h1, h2, h3, h4, h5⟩ := ch_b hn hx hy hW
  obtain ⟨g1, g2, g3⟩ := fQ_ok a h3 b h5 h4
  unfold fqT
  rw [h1, h2]
  refine ⟨g1, fun q => g2 (by omega), ?_, rfl⟩
  rw [show ((a : Nat) : Int).toNat = a from rfl, show ((b : Nat) : Int).toNat = b from rfl, g3]
  by_cases c : a = 0
  · rw [if_pos c, if_pos (by omega)]
  · rw [if_neg c, if_neg (by omega)]
theorem flA_P {W : Nat → Nat} {n y : Nat} {nw : Nat → UInt32} (hn : n ≤ 6) (hy : y < 6) (hW : ∀ k, k < 36 → W k ≤ 9) (hnw : ∀ x, x < n → P32 (nw x)) : ∀ k, k ≤ n → P32 (flA W n nw y k)
  | 0, _ => P32_0
  | k + 1, hk => by
    have ih := flA_P (nw := nw) hn hy hW hnw k (by omega)
    rw [flA]
    split
    · exact ih
    · next c =>
      obtain ⟨g1, g2, -⟩ := fqT_ok (x := k) hn (by omega) hy hW
      exact P32_add ih (P32_mul (hnw k (by omega)) ⟨g2 c, g1⟩)
theorem flN_P {W : Nat → Nat} {n s : Nat} (hn : n ≤ 6) (hW : ∀ k, k < 36 → W k ≤ 9) : ∀ k x, x < n → P32 (flN W n s k x)
  | 0, x, _ => by
    show P32 (if x = s then _ else _)
    split
    · exact P32_1
    · exact P32_0
  | k + 1, x, hx => flA_P hn (by omega) hW (fun y hy => flN_P hn hW k y hy) n (Nat.le_refl _)
theorem flA_cong {W : Nat → Nat} {n y : Nat} {f g : Nat → UInt32} (hh : ∀ x, x < n → f x = g x) : ∀ k, k ≤ n → flA W n f y k = flA W n g y k
  | 0, _ => rfl
  | k + 1, hk => by rw [flA, flA, flA_cong hh k (by omega), hh k (by omega)]
def spE (q : Nat) : va_E := ob 7 [.ref (q + 1), .ref (q + 2), .ref (q + 3), .ref (q + 4)]
def spC (v : Ev) (q : Nat) (T nw nx : Nat → UInt32) (a b : Int) : Nat → va_E
  | 0 => spE q
  | 1 => aF v 36 T
  | 2 => aF v 6 nw
  | 3 => aF v 6 nx
  | _ => frE a b
def spH (v : Ev) (h : Hp) (q : Nat) (T nw nx : Nat → UInt32) (a b : Int) : Hp := fun p => if q ≤ p ∧ p < q + 5 then some (spC v q T nw nx a b (p - q)) else h p
section
variable {v : Ev} {h : Hp} {q : Nat} {T nw nx : Nat → UInt32} {a b : Int}
theorem spH_0 : spH v h q T nw nx a b q = some (spE q) := by unfold spH; rw [if_pos (by omega), Nat.sub_self]; rfl
theorem spH_1 : spH v h q T nw nx a b (q + 1) = some (aF v 36 T) := by unfold spH; rw [if_pos (by omega), show q + 1 - q = 1 by omega]; rfl
theorem spH_2 : spH v h q T nw nx a b (q + 2) = some (aF v 6 nw) := by unfold spH; rw [if_pos (by omega), show q + 2 - q = 2 by omega]; rfl
theorem spH_3 : spH v h q T nw nx a b (q + 3) = some (aF v 6 nx) := by unfold spH; rw [if_pos (by omega), show q + 3 - q = 3 by omega]; rfl
theorem spH_4 : spH v h q T nw nx a b (q + 4) = some (frE a b) := by unfold spH; rw [if_pos (by omega), show q + 4 - q = 4 by omega]; rfl
theorem spH_out {p : Nat} (hp : p < q ∨ q + 5 ≤ p) : spH v h q T nw nx a b p = h p := if_neg (by omega)
theorem spH_G {g : Nat} {G : GT} (hg : isG v h g G) (hd : g + 6 ≤ q ∨ q + 5 ≤ g) : isG v (spH v h q T nw nx a b) g G := hg.frame (fun a _ _ => spH_out (by omega))
theorem spH_ext {h' : Hp} (h0 : h' q = some (spE q)) (h1 : h' (q + 1) = some (aF v 36 T)) (h2 : h' (q + 2) = some (aF v 6 nw)) (h3 : h' (q + 3) = some (aF v 6 nx)) (h4 : h' (q + 4) = some (frE a b)) (ho : ∀ p, (p < q ∨ q + 5 ≤ p) → h' p = h p) : h' = spH v h q T nw nx a b := by
  funext p
  by_cases ha : q ≤ p ∧ p < q + 5
  · rcases (show p = q ∨ p = q + 1 ∨ p = q + 2 ∨ p = q + 3 ∨ p = q + 4 by omega) with e | e | e | e | e
    · rw [e, h0, spH_0]
    · rw [e, h1, spH_1]
    · rw [e, h2, spH_2]
    · rw [e, h3, spH_3]
    · rw [e, h4, spH_4]
  · rw [ho p (by omega), spH_out (by omega)]
theorem spH_p1 (T2 : Nat → UInt32) : hp (spH v h q T nw nx a b) (q + 1) (aF v 36 T2) = spH v h q T2 nw nx a b :=
  spH_ext ((hp_ne _ _ (by omega)).trans spH_0) (hp_eq _ _ _) ((hp_ne _ _ (by omega)).trans spH_2) ((hp_ne _ _ (by omega)).trans spH_3) ((hp_ne _ _ (by omega)).trans spH_4) (fun p hp => (hp_ne _ _ (by omega)).trans (spH_out hp))
theorem spH_p2 (n2 : Nat → UInt32) : hp (spH v h q T nw nx a b) (q + 2) (aF v 6 n2) = spH v h q T n2 nx a b :=
  spH_ext ((hp_ne _ _ (by omega)).trans spH_0) ((hp_ne _ _ (by omega)).trans spH_1) (hp_eq _ _ _) ((hp_ne _ _ (by omega)).trans spH_3) ((hp_ne _ _ (by omega)).trans spH_4) (fun p hp => (hp_ne _ _ (by omega)).trans (spH_out hp))
theorem spH_p3 (n2 : Nat → UInt32) : hp (spH v h q T nw nx a b) (q + 3) (aF v 6 n2) = spH v h q T nw n2 a b :=
  spH_ext ((hp_ne _ _ (by omega)).trans spH_0) ((hp_ne _ _ (by omega)).trans spH_1) ((hp_ne _ _ (by omega)).trans spH_2) (hp_eq _ _ _) ((hp_ne _ _ (by omega)).trans spH_4) (fun p hp => (hp_ne _ _ (by omega)).trans (spH_out hp))
theorem spH_p4 (a2 b2 : Int) : hp (spH v h q T nw nx a b) (q + 4) (frE a2 b2) = spH v h q T nw nx a2 b2 :=
  spH_ext ((hp_ne _ _ (by omega)).trans spH_0) ((hp_ne _ _ (by omega)).trans spH_1) ((hp_ne _ _ (by omega)).trans spH_2) ((hp_ne _ _ (by omega)).trans spH_3) (hp_eq _ _ _) (fun p hp => (hp_ne _ _ (by omega)).trans (spH_out hp))
end
theorem c_fillC {v : Ev} {h : Hp} {top q g : Nat} {G : GT} {T nw nx : Nat → UInt32} {a b : Int} (hg : isG v h g G) (hd : g + 6 ≤ q ∨ q + 5 ≤ g) (hn : G.n ≤ 6) (hW : ∀ k, k < 36 → G.W k ≤ 9) :
    Cal v mX7_fillChances 5 0 0 [.ref q, .ref g] (spH v h q T nw nx a b) top (fun r h' top' => r = none ∧ top = top' ∧ ∃ T' a' b', h' = spH v h q T' nw nx a' b' ∧ ∀ i j, i < G.n → j < G.n → T' (i * 6 + j) = fqT G.W G.n i j) noX := by
  have gG : ∀ T a b, isG v (spH v h q T nw nx a b) g G := fun T a b => spH_G hg hd
  refine Cal.ofJ (by decide +kernel) rfl (Nat.le_of_ble_eq_true rfl) fun hz0 => ?_
  refine r_ls [some (.ref q), some (.ref g), none, none] rfl ?_
  refine r_iconst (pc := 0) (w := nI 0) (tX7_fillChances.at 0 rfl) (by decide) ?_
  refine r_istore_n (pc := 1) (i := 2) (tX7_fillChances.at 1 rfl) rfl (by decide) ?_
  generalize hPo : (fun (r : Option Value) (h' : Hp) (top' : Nat) => r = none ∧ top = top' ∧ ∃ T' a' b', h' = spH v h q T' nw nx a' b' ∧ ∀ i j, i < G.n → j < G.n → T' (i * 6 + j) = fqT G.W G.n i j) = Po
  have key2 : ∀ x, x < G.n → (∀ (T : Nat → UInt32) a b o, (∀ i j, i < x + 1 → j < G.n → T (i * 6 + j) = fqT G.W G.n i j) → J v mX7_fillChances (rmOf 5 0 0) (KM v Po noX 0 0) top 0 0 (spH v h q T nw nx a b) top 2 [some (.ref q), some (.ref g), some (.int (nI (x + 1))), o] []) →
      ∀ m y (T : Nat → UInt32) a b, y + m = G.n → (∀ i j, j < G.n → (i < x ∨ (i = x ∧ j < y)) → T (i * 6 + j) = fqT G.W G.n i j) → J v mX7_fillChances (rmOf 5 0 0) (KM v Po noX 0 0) top 0 0 (spH v h q T nw nx a b) top 12 [some (.ref q), some (.ref g), some (.int (nI x)), some (.int (nI y))] [] := by
    intro x hx nx' m
    induction m with
    | zero =>
      intro y T a b hy hT
      have hy : y = G.n := by omega
      subst hy
      refine r_iload_n (pc := 12) (i := 3) (tX7_fillChances.at 8 rfl) rfl rfl ?_
      refine r_aload_n (pc := 13) (i := 1) (tX7_fillChances.at 9 rfl) rfl rfl ?_
      refine r_get (pc := 14) (tX7_fillChances.at 10 rfl) gf_X7_32 ((gG _ _ _).1) rfl ?_
      refine r_icmp_geN (pc := 17) 64 (tX7_fillChances.at 11 rfl) (by decide) (by omega) (by omega) (fun _ => ?_) (fun c => by omega)
      first | refine r_iincN (pc := 64) (tX7_fillChances.at 37 rfl) rfl (by decide) ?_ | refine r_iinc (pc := 64) (tX7_fillChances.at 37 rfl) rfl rfl (by decide) ?_
      refine r_goto (pc := 67) 2 (tX7_fillChances.at 38 rfl) (by decide) ?_
      exact nx' T a b _ (fun i j h1 h2 => hT i j h2 (by omega))
    | succ m ih =>
      intro y T a b hy hT
      obtain ⟨-, -, -, hq⟩ := fqT_ok (W := G.W) (n := G.n) (x := x) (y := y) hn (by omega) (by omega) hW
      obtain ⟨g1, -, -, -⟩ := fqT_ok (W := G.W) (n := G.n) (x := x) (y := y) hn (by omega) (by omega) hW
      refine r_iload_n (pc := 12) (i := 3) (tX7_fillChances.at 8 rfl) rfl rfl ?_
      refine r_aload_n (pc := 13) (i := 1) (tX7_fillChances.at 9 rfl) rfl rfl ?_
      refine r_get (pc := 14) (tX7_fillChances.at 10 rfl) gf_X7_32 ((gG _ _ _).1) rfl ?_
      refine r_icmp_geN (pc := 17) 64 (tX7_fillChances.at 11 rfl) (by decide) (by omega) (by omega) (fun c => by omega) (fun _ => ?_)
      refine r_aload_n (pc := 20) (i := 1) (tX7_fillChances.at 12 rfl) rfl rfl ?_
      refine r_iload_n (pc := 21) (i := 2) (tX7_fillChances.at 13 rfl) rfl rfl ?_
      refine r_iload_n (pc := 22) (i := 3) (tX7_fillChances.at 14 rfl) rfl rfl ?_
      refine r_aload_n (pc := 23) (i := 0) (tX7_fillChances.at 15 rfl) rfl rfl ?_
      refine r_get (pc := 24) (tX7_fillChances.at 16 rfl) gf_X7_24 (spH_0) rfl ?_
      refine r_callV (M' := mX3_stepChance) (pc := 27) (tX7_fillChances.at 17 rfl) ml_X7_48 rfl mw_X3_stepChance ⟨by decide, by decide⟩ ((gG _ _ _).1) rfl rfl (c_step (gG _ _ _) spH_4 hn (x := x) (y := y) (by omega) (by omega) (fun k hk => by have := hW k hk; omega)) rfl rfl (Nat.le_of_ble_eq_true rfl) (Nat.le_of_ble_eq_true rfl) (Nat.le_of_ble_eq_true rfl) ?_
      rintro _ _ _ ⟨rfl, rfl, rfl⟩
      rw [spH_p4]
      refine r_aload_n (pc := 30) (i := 0) (tX7_fillChances.at 18 rfl) rfl rfl ?_
      refine r_get (pc := 31) (tX7_fillChances.at 19 rfl) gf_X7_9 (spH_0) rfl ?_
      refine r_iload_n (pc := 34) (i := 2) (tX7_fillChances.at 20 rfl) rfl rfl ?_
      refine r_bipush (pc := 35) (w := nI 6) (tX7_fillChances.at 21 rfl) (by decide) ?_
      first | refine r_imulN (pc := 37) (tX7_fillChances.at 22 rfl) ?_ | refine r_imulZ (pc := 37) (tX7_fillChances.at 22 rfl) ?_ | refine r_imul (pc := 37) (tX7_fillChances.at 22 rfl) ?_
      refine r_iload_n (pc := 38) (i := 3) (tX7_fillChances.at 23 rfl) rfl rfl ?_
      first | refine r_iaddN (pc := 39) (tX7_fillChances.at 24 rfl) ?_ | refine r_iaddZ (pc := 39) (tX7_fillChances.at 24 rfl) ?_ | refine r_iadd (pc := 39) (tX7_fillChances.at 24 rfl) ?_
      refine r_aload_n (pc := 40) (i := 0) (tX7_fillChances.at 25 rfl) rfl rfl ?_
      refine r_get (pc := 41) (tX7_fillChances.at 26 rfl) gf_X7_24 (spH_0) rfl ?_
      refine r_get (pc := 44) (tX7_fillChances.at 27 rfl) gf_X7_52 (spH_4) rfl ?_
      refine r_l2f (pc := 47) (tX7_fillChances.at 28 rfl) ?_
      refine r_aload_n (pc := 48) (i := 0) (tX7_fillChances.at 29 rfl) rfl rfl ?_
      refine r_get (pc := 49) (tX7_fillChances.at 30 rfl) gf_X7_24 (spH_0) rfl ?_
      refine r_get (pc := 52) (tX7_fillChances.at 31 rfl) gf_X7_56 (spH_4) rfl ?_
      refine r_l2f (pc := 55) (tX7_fillChances.at 32 rfl) ?_
      refine r_fdiv (pc := 56) (tX7_fillChances.at 33 rfl) (by rw [hq]; exact P32.n32 (Nat.le_of_lt g1)) ?_
      rw [hq]
      refine r_fast (pc := 57) (tX7_fillChances.at 34 rfl) (spH_1) (x * 6 + y) (rfl) (by omega) (Nat.le_of_ble_eq_true rfl) ?_
      rw [spH_p1]
      first | refine r_iincN (pc := 58) (tX7_fillChances.at 35 rfl) rfl (by decide) ?_ | refine r_iinc (pc := 58) (tX7_fillChances.at 35 rfl) rfl rfl (by decide) ?_
      refine r_goto (pc := 61) 12 (tX7_fillChances.at 36 rfl) (by decide) ?_
      refine ih (y + 1) _ _ _ (by omega) (fun i j h1 h2 => ?_)
      unfold vf_upd
      by_cases e : i * 6 + j = x * 6 + y
      · have e2 := (w6 (show j < 6 by omega) (show y < 6 by omega)).mp e
        rw [if_pos e, e2.1, e2.2]
      · rw [if_neg e]
        exact hT i j h1 (by
          rcases h2 with h2 | ⟨rfl, h2⟩
          · exact Or.inl h2
          · exact Or.inr ⟨rfl, by omega⟩)
  have key1 : ∀ m x (T : Nat → UInt32) a b o, x + m = G.n → (∀ i j, i < x → j < G.n → T (i * 6 + j) = fqT G.W G.n i j) → J v mX7_fillChances (rmOf 5 0 0) (KM v Po noX 0 0) top 0 0 (spH v h q T nw nx a b) top 2 [some (.ref q), some (.ref g), some (.int (nI x)), o] [] := by
    intro m
    induction m with
    | zero =>
      intro x T a b o hx hT
      have hx : x = G.n := by omega
      subst hx
      refine r_iload_n (pc := 2) (i := 2) (tX7_fillChances.at 2 rfl) rfl rfl ?_
      refine r_aload_n (pc := 3) (i := 1) (tX7_fillChances.at 3 rfl) rfl rfl ?_
      refine r_get (pc := 4) (tX7_fillChances.at 4 rfl) gf_X7_32 ((gG _ _ _).1) rfl ?_
      refine r_icmp_geN (pc := 7) 70 (tX7_fillChances.at 5 rfl) (by decide) (by omega) (by omega) (fun _ => ?_) (fun c => by omega)
      refine r_vret (pc := 70) (tX7_fillChances.at 39 rfl) rfl (Nat.le_of_ble_eq_true rfl) (Nat.le_of_ble_eq_true rfl) ?_
      subst hPo
      exact ⟨rfl, rfl, T, a, b, rfl, hT⟩
    | succ m ih =>
      intro x T a b o hx hT
      refine r_iload_n (pc := 2) (i := 2) (tX7_fillChances.at 2 rfl) rfl rfl ?_
      refine r_aload_n (pc := 3) (i := 1) (tX7_fillChances.at 3 rfl) rfl rfl ?_
      refine r_get (pc := 4) (tX7_fillChances.at 4 rfl) gf_X7_32 ((gG _ _ _).1) rfl ?_
      refine r_icmp_geN (pc := 7) 70 (tX7_fillChances.at 5 rfl) (by decide) (by omega) (by omega) (fun c => by omega) (fun _ => ?_)
      refine r_iconst (pc := 10) (w := nI 0) (tX7_fillChances.at 6 rfl) (by decide) ?_
      refine r_istore_n (pc := 11) (i := 3) (tX7_fillChances.at 7 rfl) rfl (by decide) ?_
      exact key2 x (by omega) (fun T a b o hT => ih (x + 1) T a b o (by omega) hT) G.n 0 T a b (by omega) (fun i j h1 h2 => hT i j (by omega) h1)
  exact key1 G.n 0 T a b _ (by omega) (fun i j h1 h2 => by omega)
theorem c_chAt {v : Ev} {h : Hp} {top q g y : Nat} {G : GT} {T nw nx : Nat → UInt32} {a b : Int} (hg : isG v h g G) (hd : g + 6 ≤ q ∨ q + 5 ≤ g) (hn : G.n ≤ 6) (hW : ∀ k, k < 36 → G.W k ≤ 9) (hT : ∀ i j, i < G.n → j < G.n → T (i * 6 + j) = fqT G.W G.n i j) (hnw : ∀ x, x < G.n → P32 (nw x)) (hy : y < G.n) :
    Cal v mX7_chanceAt 2 0 0 [.ref q, .ref g, .int (nI y)] (spH v h q T nw nx a b) top (pR (.float (flA G.W G.n nw y G.n)) (spH v h q T nw nx a b) top) noX := by
  have gG : isG v (spH v h q T nw nx a b) g G := spH_G hg hd
  refine Cal.ofJ (by decide +kernel) rfl (Nat.le_of_ble_eq_true rfl) fun hz0 => ?_
  refine r_ls [some (.ref q), some (.ref g), some (.int (nI y)), none, none, none] rfl ?_
  refine r_fconst0 (pc := 0) (tX7_chanceAt.at 0 rfl) ?_
  refine r_fstore_n (pc := 1) (i := 3) (tX7_chanceAt.at 1 rfl) rfl (by decide) ?_
  refine r_iconst (pc := 2) (w := nI 0) (tX7_chanceAt.at 2 rfl) (by decide) ?_
  refine r_istore (pc := 3) (i := 4) (tX7_chanceAt.at 3 rfl) (by decide) ?_
  have key : ∀ m x o, x + m = G.n → J v mX7_chanceAt (rmOf 2 0 0) (KM v (pR (.float (flA G.W G.n nw y G.n)) (spH v h q T nw nx a b) top) noX 0 0) top 0 0 (spH v h q T nw nx a b) top 5 [some (.ref q), some (.ref g), some (.int (nI y)), some (.float (flA G.W G.n nw y x)), some (.int (nI x)), o] [] := by
    intro m
    induction m with
    | zero =>
      intro x o hx
      have hx : x = G.n := by omega
      subst hx
      refine r_iload (pc := 5) (i := 4) (tX7_chanceAt.at 4 rfl) rfl ?_
      refine r_aload_n (pc := 7) (i := 1) (tX7_chanceAt.at 5 rfl) rfl rfl ?_
      refine r_get (pc := 8) (tX7_chanceAt.at 6 rfl) gf_X7_32 (gG.1) rfl ?_
      refine r_icmp_geN (pc := 11) 54 (tX7_chanceAt.at 7 rfl) (by decide) (by omega) (by omega) (fun _ => ?_) (fun c => by omega)
      refine r_fload_n (pc := 54) (i := 3) (tX7_chanceAt.at 32 rfl) rfl rfl ?_
      refine r_fret (pc := 55) (tX7_chanceAt.at 33 rfl) rfl (Nat.le_of_ble_eq_true rfl) (Nat.le_of_ble_eq_true rfl) ?_
      exact ⟨rfl, rfl, rfl⟩
    | succ m ih =>
      intro x o hx
      obtain ⟨g1, g2, g3, -⟩ := fqT_ok (W := G.W) (n := G.n) (x := x) (y := y) hn (by omega) (by omega) hW
      have nx' := ih (x + 1)
      rw [flA] at nx'
      refine r_iload (pc := 5) (i := 4) (tX7_chanceAt.at 4 rfl) rfl ?_
      refine r_aload_n (pc := 7) (i := 1) (tX7_chanceAt.at 5 rfl) rfl rfl ?_
      refine r_get (pc := 8) (tX7_chanceAt.at 6 rfl) gf_X7_32 (gG.1) rfl ?_
      refine r_icmp_geN (pc := 11) 54 (tX7_chanceAt.at 7 rfl) (by decide) (by omega) (by omega) (fun c => by omega) (fun _ => ?_)
      refine r_aload_n (pc := 14) (i := 0) (tX7_chanceAt.at 8 rfl) rfl rfl ?_
      refine r_get (pc := 15) (tX7_chanceAt.at 9 rfl) gf_X7_9 (spH_0) rfl ?_
      refine r_iload (pc := 18) (i := 4) (tX7_chanceAt.at 10 rfl) rfl ?_
      refine r_bipush (pc := 20) (w := nI 6) (tX7_chanceAt.at 11 rfl) (by decide) ?_
      first | refine r_imulN (pc := 22) (tX7_chanceAt.at 12 rfl) ?_ | refine r_imulZ (pc := 22) (tX7_chanceAt.at 12 rfl) ?_ | refine r_imul (pc := 22) (tX7_chanceAt.at 12 rfl) ?_
      refine r_iload_n (pc := 23) (i := 2) (tX7_chanceAt.at 13 rfl) rfl rfl ?_
      first | refine r_iaddN (pc := 24) (tX7_chanceAt.at 14 rfl) ?_ | refine r_iaddZ (pc := 24) (tX7_chanceAt.at 14 rfl) ?_ | refine r_iadd (pc := 24) (tX7_chanceAt.at 14 rfl) ?_
      refine r_fald (pc := 25) (tX7_chanceAt.at 15 rfl) (spH_1) (x * 6 + y) (rfl) (by omega) (Nat.le_of_ble_eq_true rfl) ?_
      rw [hT x y (by omega) hy]
      refine r_fstore (pc := 26) (i := 5) (tX7_chanceAt.at 16 rfl) (by decide) ?_
      refine r_fload (pc := 28) (i := 5) (tX7_chanceAt.at 17 rfl) rfl ?_
      refine r_fconst0 (pc := 30) (tX7_chanceAt.at 18 rfl) ?_
      refine r_fcmp (pc := 31) (tX7_chanceAt.at 19 rfl) ?_
      rw [g3]
      by_cases c : chA G.W G.n x y = 0
      · rw [if_pos c] at nx' ⊢
        refine r_if_le (pc := 32) 48 (tX7_chanceAt.at 20 rfl) (by decide) (fun _ => ?_) (fun z => absurd (by decide) z)
        first | refine r_iincN (pc := 48) (tX7_chanceAt.at 30 rfl) rfl (by decide) ?_ | refine r_iinc (pc := 48) (tX7_chanceAt.at 30 rfl) rfl rfl (by decide) ?_
        refine r_goto (pc := 51) 5 (tX7_chanceAt.at 31 rfl) (by decide) ?_
        exact nx' _ (by omega)
      · rw [if_neg c] at nx' ⊢
        have p1 := P32_mul (hnw x (by omega)) ⟨g2 c, g1⟩
        have p2 := P32_add (flA_P (nw := nw) hn (show y < 6 by omega) hW hnw x (by omega)) p1
        refine r_if_le (pc := 32) 48 (tX7_chanceAt.at 20 rfl) (by decide) (fun z => absurd z (by decide)) (fun _ => ?_)
        refine r_fload_n (pc := 35) (i := 3) (tX7_chanceAt.at 21 rfl) rfl rfl ?_
        refine r_aload_n (pc := 36) (i := 0) (tX7_chanceAt.at 22 rfl) rfl rfl ?_
        refine r_get (pc := 37) (tX7_chanceAt.at 23 rfl) gf_X7_15 (spH_0) rfl ?_
        refine r_iload (pc := 40) (i := 4) (tX7_chanceAt.at 24 rfl) rfl ?_
        refine r_fald (pc := 42) (tX7_chanceAt.at 25 rfl) (spH_2) (x) (rfl) (by omega) (Nat.le_of_ble_eq_true rfl) ?_
        refine r_fload (pc := 43) (i := 5) (tX7_chanceAt.at 26 rfl) rfl ?_
        refine r_fmul (pc := 45) (tX7_chanceAt.at 27 rfl) (p1.n32) ?_
        refine r_fadd (pc := 46) (tX7_chanceAt.at 28 rfl) (p2.n32) ?_
        refine r_fstore_n (pc := 47) (i := 3) (tX7_chanceAt.at 29 rfl) rfl (by decide) ?_
        first | refine r_iincN (pc := 48) (tX7_chanceAt.at 30 rfl) rfl (by decide) ?_ | refine r_iinc (pc := 48) (tX7_chanceAt.at 30 rfl) rfl rfl (by decide) ?_
        refine r_goto (pc := 51) 5 (tX7_chanceAt.at 31 rfl) (by decide) ?_
        exact nx' _ (by omega)
  exact key G.n 0 _ (by omega)
theorem c_after {v : Ev} {h : Hp} {top q g x y k : Nat} {G : GT} {T nw nx : Nat → UInt32} {a b : Int} (hg : isG v h g G) (hd : g + 6 ≤ q ∨ q + 5 ≤ g) (hn : G.n ≤ 6) (hW : ∀ k, k < 36 → G.W k ≤ 9) (hx : x < G.n) (hy : y < G.n) (hk : k ≤ 1000) :
    Cal v mX7_chanceAfter 6 0 0 [.ref q, .ref g, .int (nI x), .int (nI y), .int (nI k)] (spH v h q T nw nx a b) top (fun r h' top' => r = some (.float (flN G.W G.n x k y)) ∧ top = top' ∧ ∃ T' nw' nx' a' b', h' = spH v h q T' nw' nx' a' b') noX := by
  have gG : ∀ T nw nx a b, isG v (spH v h q T nw nx a b) g G := fun T nw nx a b => spH_G hg hd
  refine Cal.ofJ (by decide +kernel) rfl (Nat.le_of_ble_eq_true rfl) fun hz0 => ?_
  refine r_ls [some (.ref q), some (.ref g), some (.int (nI x)), some (.int (nI y)), some (.int (nI k)), none, none] rfl ?_
  generalize hPo : (fun (r : Option Value) (h' : Hp) (top' : Nat) => r = some (.float (flN G.W G.n x k y)) ∧ top = top' ∧ ∃ T' nw' nx' a' b', h' = spH v h q T' nw' nx' a' b') = Po
  refine r_aload_n (pc := 0) (i := 0) (tX7_chanceAfter.at 0 rfl) rfl rfl ?_
  refine r_aload_n (pc := 1) (i := 1) (tX7_chanceAfter.at 1 rfl) rfl rfl ?_
  refine r_callV (M' := mX7_fillChances) (pc := 2) (tX7_chanceAfter.at 2 rfl) ml_X7_28 rfl mw_X7_fillChances ⟨by decide, by decide⟩ (spH_0) rfl rfl (c_fillC hg hd hn hW) rfl rfl (Nat.le_of_ble_eq_true rfl) (Nat.le_of_ble_eq_true rfl) (Nat.le_of_ble_eq_true rfl) ?_
  rintro _ _ _ ⟨rfl, rfl, T1, a1, b1, rfl, hT1⟩
  refine r_iconst (pc := 5) (w := nI 0) (tX7_chanceAfter.at 3 rfl) (by decide) ?_
  refine r_istore (pc := 6) (i := 5) (tX7_chanceAfter.at 4 rfl) (by decide) ?_
  -- a step
  have key3 : ∀ i (nw : Nat → UInt32), i < k → (∀ u, u < G.n → nw u = flN G.W G.n x i u) → (∀ (nw nx : Nat → UInt32) o, (∀ u, u < G.n → nw u = flN G.W G.n x (i + 1) u) → J v mX7_chanceAfter (rmOf 6 0 0) (KM v Po noX 0 0) top 0 0 (spH v h q T1 nw nx a1 b1) top 44 [some (.ref q), some (.ref g), some (.int (nI x)), some (.int (nI y)), some (.int (nI k)), some (.int (nI (i + 1))), o] []) →
      ∀ m u (nx : Nat → UInt32), u + m = G.n → (∀ j, j < u → nx j = flA G.W G.n nw j G.n) → J v mX7_chanceAfter (rmOf 6 0 0) (KM v Po noX 0 0) top 0 0 (spH v h q T1 nw nx a1 b1) top 54 [some (.ref q), some (.ref g), some (.int (nI x)), some (.int (nI y)), some (.int (nI k)), some (.int (nI i)), some (.int (nI u))] [] := by
    intro i nw hi hnw nxt m
    induction m with
    | zero =>
      intro u nx hu hnx
      have hu : u = G.n := by omega
      subst hu
      refine r_iload (pc := 54) (i := 6) (tX7_chanceAfter.at 28 rfl) rfl ?_
      refine r_aload_n (pc := 56) (i := 1) (tX7_chanceAfter.at 29 rfl) rfl rfl ?_
      refine r_get (pc := 57) (tX7_chanceAfter.at 30 rfl) gf_X7_32 ((gG _ _ _ _ _).1) rfl ?_
      refine r_icmp_geN (pc := 60) 83 (tX7_chanceAfter.at 31 rfl) (by decide) (by omega) (by omega) (fun _ => ?_) (fun c => by omega)
      refine r_aload_n (pc := 83) (i := 0) (tX7_chanceAfter.at 42 rfl) rfl rfl ?_
      refine r_get (pc := 84) (tX7_chanceAfter.at 43 rfl) gf_X7_18 (spH_0) rfl ?_
      refine r_iconst (pc := 87) (w := nI 0) (tX7_chanceAfter.at 44 rfl) (by decide) ?_
      refine r_aload_n (pc := 88) (i := 0) (tX7_chanceAfter.at 45 rfl) rfl rfl ?_
      refine r_get (pc := 89) (tX7_chanceAfter.at 46 rfl) gf_X7_15 (spH_0) rfl ?_
      refine r_iconst (pc := 92) (w := nI 0) (tX7_chanceAfter.at 47 rfl) (by decide) ?_
      refine r_bipush (pc := 93) (w := nI 6) (tX7_chanceAfter.at 48 rfl) (by decide) ?_
      refine r_acopyF (pc := 95) 6 (tX7_chanceAfter.at 49 rfl) ml_X7_42 spH_3 spH_2 (by omega) rfl rfl rfl (by omega) (by omega) (by omega) (Nat.le_refl _) (Nat.le_of_ble_eq_true rfl) (Nat.le_of_ble_eq_true rfl) ?_
      rw [spH_p2]
      first | refine r_iincN (pc := 98) (tX7_chanceAfter.at 50 rfl) rfl (by decide) ?_ | refine r_iinc (pc := 98) (tX7_chanceAfter.at 50 rfl) rfl rfl (by decide) ?_
      refine r_goto (pc := 101) 44 (tX7_chanceAfter.at 51 rfl) (by decide) ?_
      refine nxt _ _ _ (fun j hj => ?_)
      unfold cpF
      rw [if_pos (show j < 6 by omega), hnx j hj, flN]
      exact flA_cong hnw G.n (Nat.le_refl _)
    | succ m ih =>
      intro u nx hu hnx
      have hP : ∀ z, z < G.n → P32 (nw z) := fun z hz => by rw [hnw z hz]; exact flN_P hn hW i z hz
      refine r_iload (pc := 54) (i := 6) (tX7_chanceAfter.at 28 rfl) rfl ?_
      refine r_aload_n (pc := 56) (i := 1) (tX7_chanceAfter.at 29 rfl) rfl rfl ?_
      refine r_get (pc := 57) (tX7_chanceAfter.at 30 rfl) gf_X7_32 ((gG _ _ _ _ _).1) rfl ?_
      refine r_icmp_geN (pc := 60) 83 (tX7_chanceAfter.at 31 rfl) (by decide) (by omega) (by omega) (fun c => by omega) (fun _ => ?_)
      refine r_aload_n (pc := 63) (i := 0) (tX7_chanceAfter.at 32 rfl) rfl rfl ?_
      refine r_get (pc := 64) (tX7_chanceAfter.at 33 rfl) gf_X7_18 (spH_0) rfl ?_
      refine r_iload (pc := 67) (i := 6) (tX7_chanceAfter.at 34 rfl) rfl ?_
      refine r_aload_n (pc := 69) (i := 0) (tX7_chanceAfter.at 35 rfl) rfl rfl ?_
      refine r_aload_n (pc := 70) (i := 1) (tX7_chanceAfter.at 36 rfl) rfl rfl ?_
      refine r_iload (pc := 71) (i := 6) (tX7_chanceAfter.at 37 rfl) rfl ?_
      refine r_callV (M' := mX7_chanceAt) (pc := 73) (tX7_chanceAfter.at 38 rfl) ml_X7_38 rfl mw_X7_chanceAt ⟨by decide, by decide⟩ (spH_0) rfl rfl (c_chAt hg hd hn hW hT1 hP (y := u) (by omega)) rfl rfl (Nat.le_of_ble_eq_true rfl) (Nat.le_of_ble_eq_true rfl) (Nat.le_of_ble_eq_true rfl) ?_
      rintro _ _ _ ⟨rfl, rfl, rfl⟩
      refine r_fast (pc := 76) (tX7_chanceAfter.at 39 rfl) (spH_3) (u) (rfl) (by omega) (Nat.le_of_ble_eq_true rfl) ?_
      rw [spH_p3]
      first | refine r_iincN (pc := 77) (tX7_chanceAfter.at 40 rfl) rfl (by decide) ?_ | refine r_iinc (pc := 77) (tX7_chanceAfter.at 40 rfl) rfl rfl (by decide) ?_
      refine r_goto (pc := 80) 54 (tX7_chanceAfter.at 41 rfl) (by decide) ?_
      refine ih (u + 1) _ (by omega) (fun j hj => ?_)
      unfold vf_upd
      by_cases e : j = u
      · rw [if_pos e, e]
      · rw [if_neg e]
        exact hnx j (by omega)
  have key2 : ∀ m i (nw nx : Nat → UInt32) o, i + m = k → (∀ u, u < G.n → nw u = flN G.W G.n x i u) → J v mX7_chanceAfter (rmOf 6 0 0) (KM v Po noX 0 0) top 0 0 (spH v h q T1 nw nx a1 b1) top 44 [some (.ref q), some (.ref g), some (.int (nI x)), some (.int (nI y)), some (.int (nI k)), some (.int (nI i)), o] [] := by
    intro m
    induction m with
    | zero =>
      intro i nw nx o hi hnw
      have hi : i = k := by omega
      subst hi
      refine r_iload (pc := 44) (i := 5) (tX7_chanceAfter.at 23 rfl) rfl ?_
      refine r_iload (pc := 46) (i := 4) (tX7_chanceAfter.at 24 rfl) rfl ?_
      refine r_icmp_geN (pc := 48) 104 (tX7_chanceAfter.at 25 rfl) (by decide) (by omega) (by omega) (fun _ => ?_) (fun c => by omega)
      refine r_aload_n (pc := 104) (i := 0) (tX7_chanceAfter.at 52 rfl) rfl rfl ?_
      refine r_get (pc := 105) (tX7_chanceAfter.at 53 rfl) gf_X7_15 (spH_0) rfl ?_
      refine r_iload_n (pc := 108) (i := 3) (tX7_chanceAfter.at 54 rfl) rfl rfl ?_
      refine r_fald (pc := 109) (tX7_chanceAfter.at 55 rfl) (spH_2) (y) (rfl) (by omega) (Nat.le_of_ble_eq_true rfl) ?_
      rw [hnw y hy]
      refine r_fret (pc := 110) (tX7_chanceAfter.at 56 rfl) rfl (Nat.le_of_ble_eq_true rfl) (Nat.le_of_ble_eq_true rfl) ?_
      subst hPo
      exact ⟨rfl, rfl, _, _, _, _, _, rfl⟩
    | succ m ih =>
      intro i nw nx o hi hnw
      refine r_iload (pc := 44) (i := 5) (tX7_chanceAfter.at 23 rfl) rfl ?_
      refine r_iload (pc := 46) (i := 4) (tX7_chanceAfter.at 24 rfl) rfl ?_
      refine r_icmp_geN (pc := 48) 104 (tX7_chanceAfter.at 25 rfl) (by decide) (by omega) (by omega) (fun c => by omega) (fun _ => ?_)
      refine r_iconst (pc := 51) (w := nI 0) (tX7_chanceAfter.at 26 rfl) (by decide) ?_
      refine r_istore (pc := 52) (i := 6) (tX7_chanceAfter.at 27 rfl) (by decide) ?_
      exact key3 i nw (by omega) hnw (fun nw nx o hh => ih (i + 1) nw nx o (by omega) hh) G.n 0 nx (by omega) (fun j hj => by omega)
  have key1 : ∀ m u (nw : Nat → UInt32), u + m = G.n → (∀ j, j < u → nw j = if j = x then FP.fconst1 else FP.fconst0) → J v mX7_chanceAfter (rmOf 6 0 0) (KM v Po noX 0 0) top 0 0 (spH v h q T1 nw nx a1 b1) top 8 [some (.ref q), some (.ref g), some (.int (nI x)), some (.int (nI y)), some (.int (nI k)), some (.int (nI u)), none] [] := by
    intro m
    induction m with
    | zero =>
      intro u nw hu hnw
      have hu : u = G.n := by omega
      subst hu
      refine r_iload (pc := 8) (i := 5) (tX7_chanceAfter.at 5 rfl) rfl ?_
      refine r_aload_n (pc := 10) (i := 1) (tX7_chanceAfter.at 6 rfl) rfl rfl ?_
      refine r_get (pc := 11) (tX7_chanceAfter.at 7 rfl) gf_X7_32 ((gG _ _ _ _ _).1) rfl ?_
      refine r_icmp_geN (pc := 14) 41 (tX7_chanceAfter.at 8 rfl) (by decide) (by omega) (by omega) (fun _ => ?_) (fun c => by omega)
      refine r_iconst (pc := 41) (w := nI 0) (tX7_chanceAfter.at 21 rfl) (by decide) ?_
      refine r_istore (pc := 42) (i := 5) (tX7_chanceAfter.at 22 rfl) (by decide) ?_
      exact key2 k 0 nw nx _ (by omega) hnw
    | succ m ih =>
      intro u nw hu hnw
      have fin : ∀ z, z = (if u = x then FP.fconst1 else FP.fconst0) → J v mX7_chanceAfter (rmOf 6 0 0) (KM v Po noX 0 0) top 0 0 (spH v h q T1 nw nx a1 b1) top 34 [some (.ref q), some (.ref g), some (.int (nI x)), some (.int (nI y)), some (.int (nI k)), some (.int (nI u)), none] [.float z, .int (nI u), .ref (q + 2)] := by
        intro z hz
        refine r_fast (pc := 34) (tX7_chanceAfter.at 18 rfl) (spH_2) (u) (rfl) (by omega) (Nat.le_of_ble_eq_true rfl) ?_
        rw [spH_p2]
        first | refine r_iincN (pc := 35) (tX7_chanceAfter.at 19 rfl) rfl (by decide) ?_ | refine r_iinc (pc := 35) (tX7_chanceAfter.at 19 rfl) rfl rfl (by decide) ?_
        refine r_goto (pc := 38) 8 (tX7_chanceAfter.at 20 rfl) (by decide) ?_
        refine ih (u + 1) _ (by omega) (fun j hj => ?_)
        unfold vf_upd
        by_cases e : j = u
        · rw [if_pos e, hz, e]
        · rw [if_neg e]
          exact hnw j (by omega)
      refine r_iload (pc := 8) (i := 5) (tX7_chanceAfter.at 5 rfl) rfl ?_
      refine r_aload_n (pc := 10) (i := 1) (tX7_chanceAfter.at 6 rfl) rfl rfl ?_
      refine r_get (pc := 11) (tX7_chanceAfter.at 7 rfl) gf_X7_32 ((gG _ _ _ _ _).1) rfl ?_
      refine r_icmp_geN (pc := 14) 41 (tX7_chanceAfter.at 8 rfl) (by decide) (by omega) (by omega) (fun c => by omega) (fun _ => ?_)
      refine r_aload_n (pc := 17) (i := 0) (tX7_chanceAfter.at 9 rfl) rfl rfl ?_
      refine r_get (pc := 18) (tX7_chanceAfter.at 10 rfl) gf_X7_15 (spH_0) rfl ?_
      refine r_iload (pc := 21) (i := 5) (tX7_chanceAfter.at 11 rfl) rfl ?_
      refine r_iload (pc := 23) (i := 5) (tX7_chanceAfter.at 12 rfl) rfl ?_
      refine r_iload_n (pc := 25) (i := 2) (tX7_chanceAfter.at 13 rfl) rfl rfl ?_
      refine r_icmp_neN (pc := 26) 33 (tX7_chanceAfter.at 14 rfl) (by decide) (by omega) (by omega) (fun c => ?_) (fun c => ?_)
      · refine r_fconst0 (pc := 33) (tX7_chanceAfter.at 17 rfl) ?_
        exact fin _ (by rw [if_neg c])
      · refine r_fconst1 (pc := 29) (tX7_chanceAfter.at 15 rfl) ?_
        refine r_goto (pc := 30) 34 (tX7_chanceAfter.at 16 rfl) (by decide) ?_
        exact fin _ (by rw [if_pos c])
  exact key1 G.n 0 nw (by omega) (fun j hj => by omega)

