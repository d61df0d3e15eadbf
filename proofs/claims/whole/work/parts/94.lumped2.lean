/-! ===== the lumped mean: in range, and alike ===== -/
def facN : Nat → Nat
  | 0 => 1
  | n + 1 => (n + 1) * facN n
theorem sumTo_c (K : Nat) : ∀ n, sumTo (fun _ => K) n = n * K
  | 0 => (Nat.zero_mul K).symm
  | n + 1 => by
    show sumTo (fun _ => K) n + K = (n + 1) * K
    rw [sumTo_c K n, Nat.succ_mul]
theorem dt_E {E : Nat} : ∀ n (A : Nat → Nat → Int), (∀ i j, i < n → j < n → (A i j).natAbs ≤ E) → (dt n A).natAbs ≤ facN n * E ^ n
  | 0, _, _ => Nat.le_refl _
  | n + 1, A, h => by
    refine Nat.le_trans (alS_le (g := fun _ => E * (facN n * E ^ n)) (n + 1) (fun j hj => ?_)) ?_
    · rw [Int.natAbs_mul]
      exact Nat.mul_le_mul (h 0 j (by omega) hj) (dt_E n _ (fun i k hi hk => h (i + 1) (if k < j then k else k + 1) (by omega) (by split <;> omega)))
    · rw [sumTo_c]
      show (n + 1) * (E * (facN n * E ^ n)) ≤ (n + 1) * facN n * E ^ (n + 1)
      rw [Nat.pow_succ]
      exact Nat.le_of_eq (by grind)
section
variable {A : Nat → Nat → Int} {m : Nat}
theorem bm_E (h : ∀ i j, i < m → j ≤ m → (A i j).natAbs ≤ 324) {k i j : Nat} (hk4 : k ≤ 4) (hk : k ≤ m) (hi : i < m) (hj : j ≤ m) : (bm A k i j).natAbs ≤ facN (k + 1) * 324 ^ (k + 1) := by
  rw [bm_dt A hk4]
  exact dt_E _ _ (fun a c ha hc => h _ _ (by split <;> omega) (by split <;> omega))
theorem okA_E (hm : m ≤ 4) (h1 : 1 ≤ m) (h : ∀ i j, i < m → j ≤ m → (A i j).natAbs ≤ 324) (hp : (∀ t, t < m → elm A t t t ≠ 0) → 0 < lm A m) : okA A m := by
  have b1 : ∀ k, k ≤ 3 → facN (k + 1) * 324 ^ (k + 1) ≤ 264479053824 := by decide
  have lb : ∀ k, k ≤ 2 → k ≤ m → (lm A k).natAbs ≤ 209952 := by
    intro k hk hkm
    cases k with
    | zero => exact (by decide : (1 : Nat) ≤ 209952)
    | succ k =>
      have e := bm_E h (k := k) (i := k) (j := k) (by omega) (by omega) (by omega) (by omega)
      have e2 : ∀ k, k ≤ 1 → facN (k + 1) * 324 ^ (k + 1) ≤ 209952 := by decide
      exact Nat.le_trans e (e2 k (by omega))
  refine ⟨fun k hk hz => ?_, fun k hk hz i j hi hi2 hj hj2 => ?_, fun hz => ?_, fun hz => ?_⟩
  · rw [elm_val (by omega) hk hz (Nat.le_refl _) (Nat.le_refl _)]
    exact inL_abs (Nat.le_trans (bm_E h (by omega) (by omega) hk (by omega)) (b1 k (by omega))) (by decide)
  · have hz' : ∀ t, t < k → elm A t t t ≠ 0 := fun t ht => hz t (by omega)
    rw [elm_val (by omega) hk hz' (by omega) (by omega), elm_val (by omega) hk hz' (Nat.le_refl _) (Nat.le_refl _), elm_val (by omega) hk hz' (by omega) (Nat.le_refl _), elm_val (by omega) hk hz' (Nat.le_refl _) (by omega), sylm _ (by omega)]
    exact inL_abs (mul_abs (Nat.le_trans (bm_E h (by omega) (by omega) hi2 hj2) (b1 (k + 1) (by omega))) (lb k (by omega) (by omega))) (by decide)
  · rw [elm_den (by omega) h1 hz]
    have e4 := hp hz
    obtain ⟨k, rfl⟩ : ∃ k, m = k + 1 := ⟨m - 1, by omega⟩
    have e : (lm A (k + 1)).natAbs ≤ _ := Nat.le_trans (bm_E h (k := k) (i := k) (j := k) (by omega) (by omega) (by omega) (by omega)) (b1 k (by omega))
    omega
  · rw [elm_num (by omega) h1 hz]
    have e := Nat.le_trans (bm_E h (k := m - 1) (i := m - 1) (j := m) (by omega) (by omega) (by omega) (by omega)) (b1 (m - 1) (by omega))
    omega
end
theorem sN_at {f : Nat → Nat} {a : Nat} : ∀ n, a < n → (∀ k, k < n → k ≠ a → f k = 0) → sN f n = f a
  | 0, h, _ => by omega
  | n + 1, h, hz => by
    rw [sN]
    by_cases c : a = n
    · subst c
      have key : ∀ c, c ≤ a → sN f c = 0 := by
        intro c
        induction c with
        | zero => exact fun _ => rfl
        | succ c ih =>
          intro hc
          rw [sN, ih (by omega), hz c (by omega) (by omega)]
      rw [key a (Nat.le_refl _), Nat.zero_add]
    · rw [sN_at n (by omega) (fun k hk => hz k (by omega)), hz n (by omega) (fun z => c z.symm), Nat.add_zero]
theorem sN_no {f : Nat → Nat} : ∀ n, (∀ k, k < n → f k = 0) → sN f n = 0
  | 0, _ => rfl
  | n + 1, h => by rw [sN, sN_no n (fun k hk => h k (by omega)), h n (by omega)]
/-- as many blocks as vertices: each by itself -/
theorem blk_one {B : Nat → Nat} {n b : Nat} (hB : ∀ u, u < n → B u < b) (hex : ∀ c, c < b → ∃ u, u < n ∧ B u = c) (hn : n ≤ b) {x y : Nat} (hx : x < n) (hy : y < n) (h : B x = B y) : x = y := by
  refine Classical.byContradiction (fun hne => ?_)
  have e1 : zS (fun c => zS (fun u => if c = B u then (1 : Int) else 0) 0 n) 0 b = (n : Int) := by
    rw [zS_swap]
    have : zS (fun u => zS (fun c => if c = B u then (1 : Int) else 0) 0 b) 0 n = zS (fun _ => 1) 0 n := zS_cong n (fun u _ hu => (zS_one b).trans (if_pos (hB u (by omega))))
    rw [this]
    have k : ∀ n : Nat, zS (fun _ => (1 : Int)) 0 n = (n : Int) := by
      intro n
      induction n with
      | zero => rfl
      | succ n ih =>
        show zS (fun _ => (1 : Int)) 0 n + 1 = _
        rw [ih]
        omega
    exact k n
  have e2 : zS (fun c => zS (fun u => if c = B u then (1 : Int) else 0) 0 n - 1) 0 b = (n : Int) - b := by
    rw [zS_sub, e1]
    have k : ∀ n : Nat, zS (fun _ => (1 : Int)) 0 n = (n : Int) := by
      intro n
      induction n with
      | zero => rfl
      | succ n ih =>
        show zS (fun _ => (1 : Int)) 0 n + 1 = _
        rw [ih]
        omega
    rw [k b]
  have ge : ∀ c, c < b → 0 ≤ zS (fun u => if c = B u then (1 : Int) else 0) 0 n - 1 := by
    intro c hc
    obtain ⟨u, h1, h2⟩ := hex c hc
    have e := (zS_ge (f := fun u => if c = B u then (1 : Int) else 0) n (fun j _ => by show (0 : Int) ≤ if c = B j then 1 else 0; split <;> omega)).2 u h1
    rw [if_pos h2.symm] at e
    omega
  have e3 := (zS_ge (f := fun c => zS (fun u => if c = B u then (1 : Int) else 0) 0 n - 1) b ge).2 (B x) (hB x hx)
  have e4 : 2 ≤ zS (fun u => if B x = B u then (1 : Int) else 0) 0 n := by
    have k : zS (fun u => if B x = B u then (1 : Int) else 0) 0 n = zS (fun u => (if u = x then 1 else 0) + (if B x = B u ∧ u ≠ x then (1 : Int) else 0)) 0 n := by
      refine zS_cong n (fun u _ _ => ?_)
      show (if B x = B u then (1 : Int) else 0) = (if u = x then 1 else 0) + (if B x = B u ∧ u ≠ x then (1 : Int) else 0)
      by_cases c : u = x
      · rw [if_pos c, c, if_pos rfl, if_neg (fun z => z.2 rfl)]
        rfl
      · rw [if_neg c]
        by_cases c2 : B x = B u
        · rw [if_pos c2, if_pos ⟨c2, c⟩]
          rfl
        · rw [if_neg c2, if_neg (fun z => c2 z.1)]
          rfl
    rw [k, zS_add, zS_one, if_pos hx]
    have e := (zS_ge (f := fun u => if B x = B u ∧ u ≠ x then (1 : Int) else 0) n (fun j _ => by show (0 : Int) ≤ if B x = B j ∧ j ≠ x then 1 else 0; split <;> omega)).2 y hy
    rw [if_pos ⟨h, fun z => hne z.symm⟩] at e
    omega
  rw [e2] at e3
  omega
section
variable {G : GT}
/-- six blocks: the graph itself, renamed -/
theorem lpF_nine (hW : gdW G.W G.n) (hB : ∀ u, u < G.n → G.B u < G.b) (hex : ∀ c, c < G.b → ∃ u, u < G.n ∧ G.B u = c) (hb : G.b = 6) : gdW (lpF G) G.b := by
  have h3 := lpF_gd hW (by omega)
  have h6 := hW.1
  refine ⟨h3.1, h3.2.1, h3.2.2, fun k hk => ?_⟩
  have inj : ∀ x y, x < G.n → y < G.n → G.B x = G.B y → x = y := fun x y hx hy h => blk_one hB hex (by omega) hx hy h
  have key : ∀ i j, i < 6 → j < 6 → lpF G (i * 6 + j) ≤ 9 := by
    intro i j hi hj
    by_cases c : i = j
    · rw [c, lpF_dg hj]
      omega
    · rw [lpF_ne hW.2.2.1 (by omega) (by omega) (by omega) c]
      obtain ⟨x, x1, x2⟩ := hex i (by omega)
      obtain ⟨u, u1, u2⟩ := hex j (by omega)
      have e1 : lpS G.W G.B G.n G.n i j = (if G.B x = i then wto G.W G.B G.n x j else 0) := sN_at G.n x1 (fun k hk hkx => by
        show (if G.B k = i then wto G.W G.B G.n k j else 0) = 0
        rw [if_neg (fun z => hkx (inj k x hk x1 (by rw [z, x2])))])
      have e2 : wto G.W G.B G.n x j = (if G.B u = j then G.W (x * 6 + u) else 0) := sN_at G.n u1 (fun k hk hkx => by
        show (if G.B k = j then G.W (x * 6 + k) else 0) = 0
        rw [if_neg (fun z => hkx (inj k u hk u1 (by rw [z, u2])))])
      rw [e1, if_pos x2, e2, if_pos u2]
      exact hW.2.2.2 _ (by omega)
  have e := key (k / 6) (k % 6) (by omega) (by omega)
  rw [show k / 6 * 6 + k % 6 = k by omega] at e
  exact e
theorem deg_L (hW : gdW G.W G.n) (hb : G.b ≤ 6) (hB : ∀ u, u < G.n → G.B u < G.b) {i : Nat} (hi : i < G.b) : degN (lpF G) i G.b ≤ lgS G.W G.B G.n G.n i := by
  have e1 : ((degN (lpF G) i G.b : Nat) : Int) ≤ zS (fun c => ((lpS G.W G.B G.n G.n i c : Nat) : Int)) 0 G.b := by
    rw [zS_sN]
    refine Int.ofNat_le.mpr ((sN_mono G.b (fun c hc => ?_)).1)
    show lpF G (i * 6 + c) ≤ lpS G.W G.B G.n G.n i c
    by_cases e : i = c
    · rw [← e, lpF_dg (by omega)]
      omega
    · rw [lpF_ne hW.2.2.1 hb hi hc e]
      exact Nat.le_refl _
  have e2 : zS (fun c => ((lpS G.W G.B G.n G.n i c : Nat) : Int)) 0 G.b = ((lgS G.W G.B G.n G.n i : Nat) : Int) := by
    have : ∀ c, ((lpS G.W G.B G.n G.n i c : Nat) : Int) = zS (fun x => if G.B x = i then ((wto G.W G.B G.n x c : Nat) : Int) else 0) 0 G.n := by
      intro c
      unfold lpS
      rw [← zS_sN]
      refine zS_cong _ (fun x _ _ => ?_)
      show (((if G.B x = i then wto G.W G.B G.n x c else 0 : Nat)) : Int) = if G.B x = i then ((wto G.W G.B G.n x c : Nat) : Int) else 0
      split <;> rfl
    rw [zS_cong G.b (fun c _ _ => this c), zS_swap]
    unfold lgS
    rw [← zS_sN]
    refine zS_cong _ (fun x _ _ => ?_)
    show zS (fun c => if G.B x = i then ((wto G.W G.B G.n x c : Nat) : Int) else 0) 0 G.b = ((if G.B x = i then degN G.W x G.n else 0 : Nat) : Int)
    by_cases e : G.B x = i
    · rw [if_pos e, ← wto_deg hB x]
      exact zS_cong _ (fun c _ _ => if_pos e)
    · rw [if_neg e]
      exact (zS_cong _ (fun c _ _ => if_neg e)).trans (zS_zero 0 G.b)
  omega
theorem lmp_okM (hW : gdW G.W G.n) (hb : G.b ≤ 6) (hB : ∀ u, u < G.n → G.B u < G.b) (hex : ∀ c, c < G.b → ∃ u, u < G.n ∧ G.B u = c) {i j : Nat} (hi : i < G.b) (hj : j < G.b) (hw : (rcm (lpF G) G.b i).testBit j = true) : okM (lpF G) G.b i j (lgF G) := by
  intro hij
  have h6 := hW.1
  have hg : ∀ k, lgS G.W G.B G.n G.n k ≤ 324 := fun k => lgS_le h6 h6 hW.2.2.2
  have hT : (2 ^ j : Nat).testBit i = false := ntF (fun z => hij (p2_bit.mp z).symm)
  have ht : ∃ t, t < G.b ∧ (rcm (lpF G) G.b i).testBit t = true ∧ (2 ^ j : Nat).testBit t = true := ⟨j, hj, hw, p2_bit.mpr rfl⟩
  by_cases hb6 : G.b = 6
  · refine (mn_eq (lpF_nine hW hB hex hb6) (fun k _ => ?_) hi hT ht).1
    have := hg k
    unfold lgF
    omega
  · have hL := lpF_gd hW hb
    have hk := lkq_of (W := lpF G) (n := G.b) (x := i) (T := 2 ^ j) ht
    have hq := unP_self (W := lpF G) (n := G.b) hT
    have hS : ∀ u, u < G.b → (dif (rch (lpF G) G.b i) (2 ^ j)).testBit u = unP (rcm (lpF G) G.b i) (2 ^ j) u := fun u _ => by
      rw [rch_rcm hi hb]
      exact unP_bit (rcm_lt (by omega) hb) u
    have hlen := unk_len hS hi hq
    have hm : (ascL (unP (rcm (lpF G) G.b i) (2 ^ j)) G.b).length + 1 ≤ G.b := by
      obtain ⟨-, t, h1, -, h3⟩ := hk
      exact asc_miss h1 h3
    have hs := unk_enu hS hi hq
    show okA (aug (lpF G) G.b (lgF G) (unkL (dif (rch (lpF G) G.b i) (2 ^ j)) i G.b)) (unkL (dif (rch (lpF G) G.b i) (2 ^ j)) i G.b).length
    refine okA_E (by omega) (unkL_len hi).2 (fun a c ha hc => ?_) (fun _ => by rw [hlen]; exact mean_piv hL hi hS hq hk _ (Nat.le_refl _))
    have ha2 : (unkL (dif (rch (lpF G) G.b i) (2 ^ j)) i G.b).getD a 0 < G.b := unkL_lt hi a
    have hc2 : (unkL (dif (rch (lpF G) G.b i) (2 ^ j)) i G.b).getD c 0 < G.b := unkL_lt hi c
    unfold aug
    split
    · have := hg ((unkL (dif (rch (lpF G) G.b i) (2 ^ j)) i G.b).getD a 0)
      unfold lgF
      omega
    · split
      · have e1 := deg_L hW hb hB ha2
        have := hg ((unkL (dif (rch (lpF G) G.b i) (2 ^ j)) i G.b).getD a 0)
        omega
      · have e1 : lpF G ((unkL (dif (rch (lpF G) G.b i) (2 ^ j)) i G.b).getD a 0 * 6 + (unkL (dif (rch (lpF G) G.b i) (2 ^ j)) i G.b).getD c 0) ≤ 324 := by
          rw [lpF_at G (by omega)]
          exact lpW_le h6 h6 hW.2.2.2
        omega
/-- the lumped time -/
theorem lmt_eq (hW : gdW G.W G.n) (hb : G.b ≤ 6) (hB : ∀ u, u < G.n → G.B u < G.b) (hex : ∀ c, c < G.b → ∃ u, u < G.n ∧ G.B u = c) (hl : lum G.W G.B G.n G.b) {x j : Nat} (hx : x < G.n) (hj : j < G.b) (hw : (rcm (lpF G) G.b (G.B x)).testBit j = true) : okM (lpF G) G.b (G.B x) j (lgF G) ∧ okMn G.W G.n (stM G.B j G.n) x (stG G.W G.n) ∧ muA (lpF G) G.b (G.B x) j (lgF G) = frA (mqN G.W G.n (stM G.B j G.n) x (stG G.W G.n)) (mqD G.W G.n (stM G.B j G.n) x (stG G.W G.n)) ∧ muB (lpF G) G.b (G.B x) j (lgF G) = frB (mqN G.W G.n (stM G.B j G.n) x (stG G.W G.n)) (mqD G.W G.n (stM G.B j G.n) x (stG G.W G.n)) := by
  have hi := hB x hx
  have hg2 : ∀ k, k < G.n → (stG G.W G.n k).natAbs ≤ 4455 := fun k hk => by have := stG_45 hW k hk; omega
  have htW : ∃ t, t < G.n ∧ (rcm G.W G.n x).testBit t = true ∧ (stM G.B j G.n).testBit t = true := (met_iff hW hx).mp ((blk_way hW hb hB hl hx hj).mp hw)
  refine ⟨lmp_okM hW hb hB hex hi hj hw, mn_ok hW hg2 hx htW, ?_⟩
  by_cases c : G.B x = j
  · have hT : (stM G.B j G.n).testBit x = true := (stM_bit G.n).mpr ⟨hx, c⟩
    rw [muA, muB, mqN, mqD, if_pos c, if_pos c, if_pos hT, if_pos hT, (fr_rd (by decide)).1, (fr_rd (by decide)).2]
    exact ⟨rfl, rfl⟩
  · have hT : (stM G.B j G.n).testBit x = false := ntF (fun z => c ((stM_bit G.n).mp z).2)
    have hT' : (2 ^ j : Nat).testBit (G.B x) = false := ntF (fun z => c (p2_bit.mp z).symm)
    have ht' : ∃ t, t < G.b ∧ (rcm (lpF G) G.b (G.B x)).testBit t = true ∧ (2 ^ j : Nat).testBit t = true := ⟨j, hj, hw, p2_bit.mpr rfl⟩
    have hS : ∀ u, u < G.b → (dif (rch (lpF G) G.b (G.B x)) (2 ^ j)).testBit u = unP (rcm (lpF G) G.b (G.B x)) (2 ^ j) u := fun u _ => by
      rw [rch_rcm hi hb]
      exact unP_bit (rcm_lt (by omega) hb) u
    obtain ⟨s1, s2, s3⟩ := mean_sl (g := lgF G) (lpF_gd hW hb) hi hS (unP_self hT') (lkq_of ht')
    obtain ⟨-, -, -, p, -, -, hm5⟩ := mn_eq hW hg2 hx hT htW
    have e := lmp_eq hW hb hB hl hx hj c hw rfl rfl
    have hm : (ascL (unP (rcm G.W G.n x) (stM G.B j G.n)) G.n).length ≤ 5 := hm5
    have eN : mnN G.W G.n (stM G.B j G.n) x (stG G.W G.n) = lm (rMt G.W G.n (ascL (unP (rcm G.W G.n x) (stM G.B j G.n)) G.n) (stG G.W G.n) (ascL (unP (rcm G.W G.n x) (stM G.B j G.n)) x).length) (ascL (unP (rcm G.W G.n x) (stM G.B j G.n)) G.n).length := dtS_of hm _
    have eD : mnD G.W G.n (stM G.B j G.n) x (stG G.W G.n) = lm (rMt G.W G.n (ascL (unP (rcm G.W G.n x) (stM G.B j G.n)) G.n) (stG G.W G.n) (-1)) (ascL (unP (rcm G.W G.n x) (stM G.B j G.n)) G.n).length := dtS_of hm _
    rw [← eN, ← eD] at e
    have x1 := rd_cross s3 p (e.symm.trans (Int.mul_comm _ _))
    rw [muA, muB, mqN, mqD, if_neg c, if_neg c, if_neg (by rw [hT]; intro z; cases z), if_neg (by rw [hT]; intro z; cases z), (fr_rd p).1, (fr_rd p).2]
    exact ⟨s1.trans x1.1, s2.trans x1.2⟩
end

