/-! ===== Graph: changes, told by the whole graph put into the heap ===== -/
def gC (v : Ev) (g : Nat) (G : GT) : Nat → va_E
  | 0 => ob 3 (gFs g G)
  | 1 => aI v 15 (iF G.L)
  | 2 => aI v 15 (iF G.H)
  | 3 => aI v 36 (iF G.W)
  | 4 => aI v 6 (iF G.B)
  | _ => aI v 6 (iF G.O)
/-- the heap with the graph G at g -/
def gH (v : Ev) (h : Hp) (g : Nat) (G : GT) : Hp := fun q => if g ≤ q ∧ q < g + 6 then some (gC v g G (q - g)) else h q
theorem gH_in (v : Ev) (h : Hp) (g : Nat) (G : GT) {k : Nat} (hk : k < 6) : gH v h g G (g + k) = some (gC v g G k) := by
  unfold gH
  rw [if_pos (by omega), Nat.add_sub_cancel_left]
theorem gH_out (v : Ev) (h : Hp) (g : Nat) (G : GT) {q : Nat} (hq : q < g ∨ g + 6 ≤ q) : gH v h g G q = h q := by
  unfold gH
  rw [if_neg (by omega)]
theorem gH_is (v : Ev) (h : Hp) (g : Nat) (G : GT) : isG v (gH v h g G) g G :=
  ⟨gH_in v h g G (k := 0) (by omega), gH_in v h g G (k := 1) (by omega), gH_in v h g G (k := 2) (by omega), gH_in v h g G (k := 3) (by omega), gH_in v h g G (k := 4) (by omega), gH_in v h g G (k := 5) (by omega)⟩
theorem gH_ext {v : Ev} {h h' : Hp} {g : Nat} {G : GT} (hg : isG v h' g G) (ho : ∀ q, (q < g ∨ g + 6 ≤ q) → h' q = h q) : h' = gH v h g G := by
  funext q
  by_cases hq : g ≤ q ∧ q < g + 6
  · obtain ⟨k, rfl⟩ : ∃ k, q = g + k := ⟨q - g, by omega⟩
    rw [gH_in v h g G (by omega)]
    obtain ⟨h0, h1, h2, h3, h4, h5⟩ := hg
    rcases (show k = 0 ∨ k = 1 ∨ k = 2 ∨ k = 3 ∨ k = 4 ∨ k = 5 by omega) with rfl | rfl | rfl | rfl | rfl | rfl
    · exact h0
    · exact h1
    · exact h2
    · exact h3
    · exact h4
    · exact h5
  · rw [gH_out v h g G (by omega)]
    exact ho q (by omega)
theorem gH_self {v : Ev} {h : Hp} {g : Nat} {G : GT} (hg : isG v h g G) : gH v h g G = h := (gH_ext hg (fun _ _ => rfl)).symm
theorem gH_gH (v : Ev) (h : Hp) (g : Nat) (G G2 : GT) : gH v (gH v h g G) g G2 = gH v h g G2 := by
  refine gH_ext (gH_is _ _ _ _) (fun q hq => ?_)
  rw [gH_out _ _ _ _ hq, gH_out _ _ _ _ hq]
theorem gH_to {v : Ev} {h h0 h' : Hp} {g : Nat} {G : GT} (hg : isG v h' g G) (h1 : ∀ q, (q < g ∨ g + 6 ≤ q) → h' q = h q) (h2 : ∀ q, (q < g ∨ g + 6 ≤ q) → h q = h0 q) : h' = gH v h0 g G := gH_ext hg (fun q hq => (h1 q hq).trans (h2 q hq))
theorem gH_p0 {v : Ev} {h : Hp} {g : Nat} (G : GT) (n e a b : Nat) : hp (gH v h g G) g (ob 3 (gFs g (G.sc n e a b))) = gH v h g (G.sc n e a b) := gH_to ((gH_is v h g G).p0 n e a b) (fun q hq => hp_ne _ _ (by omega)) (fun q hq => gH_out v h g G hq)
theorem gH_pF {v : Ev} {h : Hp} {g : Nat} (G : GT) (F : Nat) : hp (gH v h g G) g (ob 3 (gFs g (G.sF F))) = gH v h g (G.sF F) := gH_to ((gH_is v h g G).pF F) (fun q hq => hp_ne _ _ (by omega)) (fun q hq => gH_out v h g G hq)
theorem gH_pL {v : Ev} {h : Hp} {g : Nat} (G : GT) (L : Nat → Nat) : hp (gH v h g G) (g + 1) (aI v 15 (iF L)) = gH v h g (G.sL L) := gH_to ((gH_is v h g G).pL L) (fun q hq => hp_ne _ _ (by omega)) (fun q hq => gH_out v h g G hq)
theorem gH_pH {v : Ev} {h : Hp} {g : Nat} (G : GT) (L : Nat → Nat) : hp (gH v h g G) (g + 2) (aI v 15 (iF L)) = gH v h g (G.sH L) := gH_to ((gH_is v h g G).pH L) (fun q hq => hp_ne _ _ (by omega)) (fun q hq => gH_out v h g G hq)
theorem gH_pW {v : Ev} {h : Hp} {g : Nat} (G : GT) (L : Nat → Nat) : hp (gH v h g G) (g + 3) (aI v 36 (iF L)) = gH v h g (G.sW L) := gH_to ((gH_is v h g G).pW L) (fun q hq => hp_ne _ _ (by omega)) (fun q hq => gH_out v h g G hq)
theorem gH_pB {v : Ev} {h : Hp} {g : Nat} (G : GT) (L : Nat → Nat) : hp (gH v h g G) (g + 4) (aI v 6 (iF L)) = gH v h g (G.sB L) := gH_to ((gH_is v h g G).pB L) (fun q hq => hp_ne _ _ (by omega)) (fun q hq => gH_out v h g G hq)
theorem gH_pO {v : Ev} {h : Hp} {g : Nat} (G : GT) (L : Nat → Nat) : hp (gH v h g G) (g + 5) (aI v 6 (iF L)) = gH v h g (G.sO L) := gH_to ((gH_is v h g G).pO L) (fun q hq => hp_ne _ _ (by omega)) (fun q hq => gH_out v h g G hq)
def pWt (W : Nat → Nat) (a b w : Nat) : Nat → Nat := upN (upN W (a * 6 + b) w) (b * 6 + a) w
theorem c_putW2 {v : Ev} {h : Hp} {top g : Nat} {G : GT} {a b w : Nat} (ha : a < 6) (hb : b < 6) : Cal v mX3_putWeight 1 0 0 [.ref g, .int (nI a), .int (nI b), .int (nI w)] (gH v h g G) top (pV (gH v h g (G.sW (pWt G.W a b w))) top) noX := by
  have h1 := c_putW (top := top) (gH_is v h g G) (w := w) ha hb
  rw [gH_pW] at h1
  exact h1
theorem iF_cpF (f g : Nat → Nat) (n : Nat) : cpF (iF f) (iF g) n = iF (cpF f g n) := by
  funext k
  show (if k < n then nI (f k) else nI (g k)) = nI (if k < n then f k else g k)
  split <;> rfl
/-- the first place below n where p holds, or n -/
def fstN (p : Nat → Bool) : Nat → Nat
  | 0 => 0
  | n + 1 => if fstN p n < n then fstN p n else if p n then n else n + 1
theorem fstN_spec (p : Nat → Bool) : ∀ n, fstN p n ≤ n ∧ (∀ j, j < fstN p n → p j = false) ∧ (fstN p n < n → p (fstN p n) = true)
  | 0 => ⟨Nat.le_refl _, fun j hj => by simp [fstN] at hj, fun q => by simp [fstN] at q⟩
  | n + 1 => by
    obtain ⟨h1, h2, h3⟩ := fstN_spec p n
    rw [fstN]
    split
    · next q => exact ⟨by omega, h2, fun _ => h3 q⟩
    · next q =>
      have e : fstN p n = n := by omega
      rw [e] at h2
      split
      · next q2 => exact ⟨by omega, h2, fun _ => q2⟩
      · next q2 =>
        refine ⟨Nat.le_refl _, fun j hj => ?_, fun q3 => absurd q3 (by omega)⟩
        by_cases hj2 : j < n
        · exact h2 j hj2
        · have : j = n := by omega
          subst this
          simpa using q2
theorem fstN_is {p : Nat → Bool} {n k : Nat} (hk : k ≤ n) (h1 : ∀ j, j < k → p j = false) (h2 : k = n ∨ p k = true) : fstN p n = k := by
  obtain ⟨g1, g2, g3⟩ := fstN_spec p n
  rcases Nat.lt_trichotomy (fstN p n) k with q | q | q
  · have := h1 _ q
    rw [g3 (by omega)] at this
    cases this
  · exact q
  · have := g2 k q
    rcases h2 with h2 | h2
    · omega
    · rw [h2] at this; cases this
/-- the blocks numbered anew, after v vertices: the row and how many -/
def numL (B : Nat → Nat) : Nat → (Nat → Nat) × Nat
  | 0 => (B, 0)
  | v + 1 => if fstN (fun k => B k == B v) v < v then (upN (numL B v).1 v ((numL B v).1 (fstN (fun k => B k == B v) v)), (numL B v).2) else (upN (numL B v).1 v (numL B v).2, (numL B v).2 + 1)
def GT.num (G : GT) : GT := ((G.sO (cpF G.B G.O 6)).sB (numL G.B G.n).1).sc G.n G.e G.a (numL G.B G.n).2
theorem c_numB {v : Ev} {h : Hp} {top g : Nat} {G : GT} (hn : G.n ≤ 6) (hB : ∀ k, k < 6 → G.B k < 2147483648) : Cal v mX3_numberBlocks 2 0 0 [.ref g] (gH v h g G) top (pV (gH v h g G.num) top) noX := by
  refine Cal.ofJ (by decide +kernel) rfl (Nat.le_of_ble_eq_true rfl) fun hz0 => ?_
  refine r_ls [some (.ref g), none, none] rfl ?_
  have hg := gH_is v h g G
  refine r_aload_n (pc := 0) (i := 0) (tX3_numberBlocks.at 0 rfl) rfl rfl ?_
  refine r_get (pc := 1) (tX3_numberBlocks.at 1 rfl) gf_X3_34 (hg.1) rfl ?_
  refine r_iconst (pc := 4) (w := nI 0) (tX3_numberBlocks.at 2 rfl) (by decide) ?_
  refine r_aload_n (pc := 5) (i := 0) (tX3_numberBlocks.at 3 rfl) rfl rfl ?_
  refine r_get (pc := 6) (tX3_numberBlocks.at 4 rfl) gf_X3_37 (hg.1) rfl ?_
  refine r_iconst (pc := 9) (w := nI 0) (tX3_numberBlocks.at 5 rfl) (by decide) ?_
  refine r_bipush (pc := 10) (w := nI 6) (tX3_numberBlocks.at 6 rfl) (by decide) ?_
  refine r_acopyI (pc := 12) _ (tX3_numberBlocks.at 7 rfl) ml_X3_46 (hg.2.2.2.2.1) (hg.2.2.2.2.2) (by omega) rfl rfl rfl (Nat.le_of_ble_eq_true rfl) (Nat.le_of_ble_eq_true rfl) (Nat.le_of_ble_eq_true rfl) (Nat.le_refl _) (Nat.le_of_ble_eq_true rfl) (Nat.le_of_ble_eq_true rfl) ?_
  rw [iF_cpF, gH_pO]
  have hg1 := gH_is v h g (G.sO (cpF G.B G.O 6))
  refine r_aload_n (pc := 15) (i := 0) (tX3_numberBlocks.at 8 rfl) rfl rfl ?_
  refine r_iconst (pc := 16) (w := nI 0) (tX3_numberBlocks.at 9 rfl) (by decide) ?_
  refine r_put (pc := 17) (tX3_numberBlocks.at 10 rfl) pf_X3_21 (hg1.1) (Nat.le_of_ble_eq_true rfl) (rfl) (rfl) ?_
  refine r_eq (gH_p0 (G.sO (cpF G.B G.O 6)) G.n G.e G.a 0) rfl ?_
  refine r_iconst (pc := 20) (w := nI 0) (tX3_numberBlocks.at 11 rfl) (by decide) ?_
  refine r_istore_n (pc := 21) (i := 1) (tX3_numberBlocks.at 12 rfl) rfl (by decide) ?_
  refine down (n := G.n) (P := fun u => J v mX3_numberBlocks (rmOf 2 0 0) (KM v (pV (gH v h g G.num) top) noX 0 0) top 0 0 (gH v h g (((G.sO (cpF G.B G.O 6)).sB (numL G.B u).1).sc G.n G.e G.a (numL G.B u).2)) top 22 [some (.ref g), some (.int (nI u)), none] []) ?_ ?_ 0 (by omega)
  · have hg2 := gH_is v h g (((G.sO (cpF G.B G.O 6)).sB (numL G.B G.n).1).sc G.n G.e G.a (numL G.B G.n).2)
    refine r_iload_n (pc := 22) (i := 1) (tX3_numberBlocks.at 13 rfl) rfl rfl ?_
    refine r_aload_n (pc := 23) (i := 0) (tX3_numberBlocks.at 14 rfl) rfl rfl ?_
    refine r_get (pc := 24) (tX3_numberBlocks.at 15 rfl) gf_X3_9 (hg2.1) rfl ?_
    rw [show (((G.sO (cpF G.B G.O 6)).sB (numL G.B G.n).1).sc G.n G.e G.a (numL G.B G.n).2).n = G.n from rfl]
    refine r_icmp_geN (pc := 27) 104 (tX3_numberBlocks.at 16 rfl) (by decide) (by omega) (by omega) (fun _ => ?_) (fun c => by omega)
    refine r_vret (pc := 104) (tX3_numberBlocks.at 59 rfl) rfl (Nat.le_of_ble_eq_true rfl) (Nat.le_of_ble_eq_true rfl) ?_
    exact ⟨rfl, rfl, rfl⟩
  · intro u hu ih
    have hg2 := gH_is v h g (((G.sO (cpF G.B G.O 6)).sB (numL G.B u).1).sc G.n G.e G.a (numL G.B u).2)
    generalize hX : ((G.sO (cpF G.B G.O 6)).sB (numL G.B u).1).sc G.n G.e G.a (numL G.B u).2 = X at hg2 ⊢
    have eN : X.n = G.n := by rw [← hX]; rfl
    have eO : ∀ k, k < 6 → X.O k = G.B k := fun k hk => by rw [← hX]; exact if_pos hk
    have eB : X.B = (numL G.B u).1 := by rw [← hX]; rfl
    have eb : X.b = (numL G.B u).2 := by rw [← hX]; rfl
    refine r_iload_n (pc := 22) (i := 1) (tX3_numberBlocks.at 13 rfl) rfl rfl ?_
    refine r_aload_n (pc := 23) (i := 0) (tX3_numberBlocks.at 14 rfl) rfl rfl ?_
    refine r_get (pc := 24) (tX3_numberBlocks.at 15 rfl) gf_X3_9 (hg2.1) rfl ?_
    rw [eN]
    refine r_icmp_geN (pc := 27) 104 (tX3_numberBlocks.at 16 rfl) (by decide) (by omega) (by omega) (fun c => by omega) (fun _ => ?_)
    refine r_iconst (pc := 30) (w := nI 0) (tX3_numberBlocks.at 17 rfl) (by decide) ?_
    refine r_istore_n (pc := 31) (i := 2) (tX3_numberBlocks.at 18 rfl) rfl (by decide) ?_
    have hend : J v mX3_numberBlocks (rmOf 2 0 0) (KM v (pV (gH v h g G.num) top) noX 0 0) top 0 0 (gH v h g X) top 58 [some (.ref g), some (.int (nI u)), some (.int (nI (fstN (fun k => G.B k == G.B u) u)))] [] := by
      have hf := (fstN_spec (fun k => G.B k == G.B u) u).1
      refine r_iload_n (pc := 58) (i := 2) (tX3_numberBlocks.at 33 rfl) rfl rfl ?_
      refine r_iload_n (pc := 59) (i := 1) (tX3_numberBlocks.at 34 rfl) rfl rfl ?_
      refine r_icmp_geN (pc := 60) 78 (tX3_numberBlocks.at 35 rfl) (by decide) (by omega) (by omega) (fun c => ?_) (fun c => ?_)
      · refine r_aload_n (pc := 78) (i := 0) (tX3_numberBlocks.at 45 rfl) rfl rfl ?_
        refine r_get (pc := 79) (tX3_numberBlocks.at 46 rfl) gf_X3_34 (hg2.1) rfl ?_
        refine r_iload_n (pc := 82) (i := 1) (tX3_numberBlocks.at 47 rfl) rfl rfl ?_
        refine r_aload_n (pc := 83) (i := 0) (tX3_numberBlocks.at 48 rfl) rfl rfl ?_
        refine r_get (pc := 84) (tX3_numberBlocks.at 49 rfl) gf_X3_21 (hg2.1) rfl ?_
        refine r_iast (pc := 87) (tX3_numberBlocks.at 50 rfl) (hg2.2.2.2.2.1) (u) (rfl) (by omega) (Nat.le_of_ble_eq_true rfl) ?_
        rw [upd_iF, gH_pB]
        have hg3 := gH_is v h g (X.sB (upN X.B u X.b))
        refine r_aload_n (pc := 88) (i := 0) (tX3_numberBlocks.at 51 rfl) rfl rfl ?_
        refine r_dup (pc := 89) (tX3_numberBlocks.at 52 rfl) rfl ?_
        refine r_get (pc := 90) (tX3_numberBlocks.at 53 rfl) gf_X3_21 (hg3.1) rfl ?_
        refine r_iconst (pc := 93) (w := nI 1) (tX3_numberBlocks.at 54 rfl) (by decide) ?_
        first | refine r_iaddN (pc := 94) (tX3_numberBlocks.at 55 rfl) ?_ | refine r_iadd (pc := 94) (tX3_numberBlocks.at 55 rfl) ?_
        refine r_put (pc := 95) (tX3_numberBlocks.at 56 rfl) pf_X3_21 (hg3.1) (Nat.le_of_ble_eq_true rfl) (rfl) (rfl) ?_
        refine r_eq (gH_p0 (X.sB (upN X.B u X.b)) X.n X.e X.a (X.b + 1)) rfl ?_
        first | refine r_iincN (pc := 98) (tX3_numberBlocks.at 57 rfl) rfl (by decide) ?_ | refine r_iinc (pc := 98) (tX3_numberBlocks.at 57 rfl) rfl rfl (by decide) ?_
        refine r_goto (pc := 101) 22 (tX3_numberBlocks.at 58 rfl) (by decide) ?_
        refine r_sub _ (fun i w hw => ?_) (r_eq ?_ rfl ih)
        · match i, hw with
          | 0, hw => exact hw
          | 1, hw => exact hw
          | 2, hw => cases hw
        · rw [← hX, numL, if_neg (by omega)]
          rfl
      · refine r_aload_n (pc := 63) (i := 0) (tX3_numberBlocks.at 36 rfl) rfl rfl ?_
        refine r_get (pc := 64) (tX3_numberBlocks.at 37 rfl) gf_X3_34 (hg2.1) rfl ?_
        refine r_iload_n (pc := 67) (i := 1) (tX3_numberBlocks.at 38 rfl) rfl rfl ?_
        refine r_aload_n (pc := 68) (i := 0) (tX3_numberBlocks.at 39 rfl) rfl rfl ?_
        refine r_get (pc := 69) (tX3_numberBlocks.at 40 rfl) gf_X3_34 (hg2.1) rfl ?_
        refine r_iload_n (pc := 72) (i := 2) (tX3_numberBlocks.at 41 rfl) rfl rfl ?_
        refine r_iald (pc := 73) (tX3_numberBlocks.at 42 rfl) (hg2.2.2.2.2.1) (fstN (fun k => G.B k == G.B u) u) (rfl) (by omega) (Nat.le_of_ble_eq_true rfl) ?_
        refine r_iast (pc := 74) (tX3_numberBlocks.at 43 rfl) (hg2.2.2.2.2.1) (u) (rfl) (by omega) (Nat.le_of_ble_eq_true rfl) ?_
        rw [show iF X.B (fstN (fun k => G.B k == G.B u) u) = nI (X.B (fstN (fun k => G.B k == G.B u) u)) from rfl, upd_iF, gH_pB]
        refine r_goto (pc := 75) 98 (tX3_numberBlocks.at 44 rfl) (by decide) ?_
        first | refine r_iincN (pc := 98) (tX3_numberBlocks.at 57 rfl) rfl (by decide) ?_ | refine r_iinc (pc := 98) (tX3_numberBlocks.at 57 rfl) rfl rfl (by decide) ?_
        refine r_goto (pc := 101) 22 (tX3_numberBlocks.at 58 rfl) (by decide) ?_
        refine r_sub _ (fun i w hw => ?_) (r_eq ?_ rfl ih)
        · match i, hw with
          | 0, hw => exact hw
          | 1, hw => exact hw
          | 2, hw => cases hw
        · rw [← hX, numL, if_pos (by omega)]
          rfl
    have inner : ∀ m k, k + m = u → (∀ j, j < k → G.B j ≠ G.B u) → J v mX3_numberBlocks (rmOf 2 0 0) (KM v (pV (gH v h g G.num) top) noX 0 0) top 0 0 (gH v h g X) top 32 [some (.ref g), some (.int (nI u)), some (.int (nI k))] [] := by
      intro m
      induction m with
      | zero =>
        intro k hk hj
        have hk : k = u := by omega
        subst hk
        refine r_iload_n (pc := 32) (i := 2) (tX3_numberBlocks.at 19 rfl) rfl rfl ?_
        refine r_iload_n (pc := 33) (i := 1) (tX3_numberBlocks.at 20 rfl) rfl rfl ?_
        refine r_icmp_geN (pc := 34) 58 (tX3_numberBlocks.at 21 rfl) (by decide) (by omega) (by omega) (fun _ => ?_) (fun c => by omega)
        rw [fstN_is (Nat.le_refl _) (fun j hj2 => by simpa using hj j hj2) (Or.inl rfl)] at hend
        exact hend
      | succ m ih3 =>
        intro k hk hj
        refine r_iload_n (pc := 32) (i := 2) (tX3_numberBlocks.at 19 rfl) rfl rfl ?_
        refine r_iload_n (pc := 33) (i := 1) (tX3_numberBlocks.at 20 rfl) rfl rfl ?_
        refine r_icmp_geN (pc := 34) 58 (tX3_numberBlocks.at 21 rfl) (by decide) (by omega) (by omega) (fun c => by omega) (fun _ => ?_)
        refine r_aload_n (pc := 37) (i := 0) (tX3_numberBlocks.at 22 rfl) rfl rfl ?_
        refine r_get (pc := 38) (tX3_numberBlocks.at 23 rfl) gf_X3_37 (hg2.1) rfl ?_
        refine r_iload_n (pc := 41) (i := 2) (tX3_numberBlocks.at 24 rfl) rfl rfl ?_
        refine r_iald (pc := 42) (tX3_numberBlocks.at 25 rfl) (hg2.2.2.2.2.2) (k) (rfl) (by omega) (Nat.le_of_ble_eq_true rfl) ?_
        refine r_aload_n (pc := 43) (i := 0) (tX3_numberBlocks.at 26 rfl) rfl rfl ?_
        refine r_get (pc := 44) (tX3_numberBlocks.at 27 rfl) gf_X3_37 (hg2.1) rfl ?_
        refine r_iload_n (pc := 47) (i := 1) (tX3_numberBlocks.at 28 rfl) rfl rfl ?_
        refine r_iald (pc := 48) (tX3_numberBlocks.at 29 rfl) (hg2.2.2.2.2.2) (u) (rfl) (by omega) (Nat.le_of_ble_eq_true rfl) ?_
        rw [show iF X.O k = nI (G.B k) from congrArg nI (eO k (by omega)), show iF X.O u = nI (G.B u) from congrArg nI (eO u (by omega))]
        have b1 := hB k (by omega)
        have b2 := hB u (by omega)
        refine r_icmp_eqN (pc := 49) 58 (tX3_numberBlocks.at 30 rfl) (by decide) b1 b2 (fun c => ?_) (fun c => ?_)
        · rw [fstN_is (show k ≤ u by omega) (fun j hj2 => by simpa using hj j hj2) (Or.inr (by simpa using c))] at hend
          exact hend
        · first | refine r_iincN (pc := 52) (tX3_numberBlocks.at 31 rfl) rfl (by decide) ?_ | refine r_iinc (pc := 52) (tX3_numberBlocks.at 31 rfl) rfl rfl (by decide) ?_
          refine r_goto (pc := 55) 32 (tX3_numberBlocks.at 32 rfl) (by decide) ?_
          exact ih3 (k + 1) (by omega) (fun j hj2 => by
            by_cases h1 : j < k
            · exact hj j h1
            · have : j = k := by omega
              subst this
              exact c)
    exact r_sub _ (fun i w hw => hw) (inner u 0 (by omega) (fun j hj => by omega))
/-- the blocks of a and b are one -/
def unB (B : Nat → Nat) (a b u : Nat) : Nat → Nat := fun k => if k < u ∧ B k = B b then B a else B k
theorem unB_0 (B : Nat → Nat) (a b : Nat) : unB B a b 0 = B := by
  funext k
  unfold unB
  rw [if_neg (by omega)]
theorem unB_s (B : Nat → Nat) (a b u : Nat) : unB B a b (u + 1) = if B u = B b then upN (unB B a b u) u (B a) else unB B a b u := by
  funext k
  by_cases hk : k = u
  · subst hk
    split
    · next q => rw [upN_eq]; unfold unB; rw [if_pos ⟨by omega, q⟩]
    · next q => unfold unB; rw [if_neg (fun z => q z.2), if_neg (fun z => q z.2)]
  · have e1 : unB B a b (u + 1) k = unB B a b u k := by
      unfold unB
      by_cases h1 : k < u
      · by_cases h2 : B k = B b
        · rw [if_pos ⟨by omega, h2⟩, if_pos ⟨h1, h2⟩]
        · rw [if_neg (fun z => h2 z.2), if_neg (fun z => h2 z.2)]
      · rw [if_neg (by omega), if_neg (by omega)]
    rw [e1]
    split
    · rw [upN_ne _ _ hk]
    · rfl
def GT.unite (G : GT) (a b : Nat) : GT := (G.sB (unB G.B a b G.n)).num
theorem c_unite {v : Ev} {h : Hp} {top g : Nat} {G : GT} (hn : G.n ≤ 6) (hB : ∀ k, k < 6 → G.B k < 2147483648) {a b : Nat} (ha : a < 6) (hb : b < 6) : Cal v mX3_uniteBlocks 3 0 0 [.ref g, .int (nI a), .int (nI b)] (gH v h g G) top (pV (gH v h g (G.unite a b)) top) noX := by
  refine Cal.ofJ (by decide +kernel) rfl (Nat.le_of_ble_eq_true rfl) fun hz0 => ?_
  refine r_ls [some (.ref g), some (.int (nI a)), some (.int (nI b)), none, none, none] rfl ?_
  have hg := gH_is v h g G
  refine r_aload_n (pc := 0) (i := 0) (tX3_uniteBlocks.at 0 rfl) rfl rfl ?_
  refine r_get (pc := 1) (tX3_uniteBlocks.at 1 rfl) gf_X3_34 (hg.1) rfl ?_
  refine r_iload_n (pc := 4) (i := 1) (tX3_uniteBlocks.at 2 rfl) rfl rfl ?_
  refine r_iald (pc := 5) (tX3_uniteBlocks.at 3 rfl) (hg.2.2.2.2.1) (a) (rfl) (by omega) (Nat.le_of_ble_eq_true rfl) ?_
  refine r_istore_n (pc := 6) (i := 3) (tX3_uniteBlocks.at 4 rfl) rfl (by decide) ?_
  refine r_aload_n (pc := 7) (i := 0) (tX3_uniteBlocks.at 5 rfl) rfl rfl ?_
  refine r_get (pc := 8) (tX3_uniteBlocks.at 6 rfl) gf_X3_34 (hg.1) rfl ?_
  refine r_iload_n (pc := 11) (i := 2) (tX3_uniteBlocks.at 7 rfl) rfl rfl ?_
  refine r_iald (pc := 12) (tX3_uniteBlocks.at 8 rfl) (hg.2.2.2.2.1) (b) (rfl) (by omega) (Nat.le_of_ble_eq_true rfl) ?_
  refine r_istore (pc := 13) (i := 4) (tX3_uniteBlocks.at 9 rfl) (by decide) ?_
  refine r_iconst (pc := 15) (w := nI 0) (tX3_uniteBlocks.at 10 rfl) (by decide) ?_
  refine r_istore (pc := 16) (i := 5) (tX3_uniteBlocks.at 11 rfl) (by decide) ?_
  refine r_eq (h2 := gH v h g (G.sB (unB G.B a b 0))) (by rw [unB_0]; rfl) rfl ?_
  refine down (n := G.n) (P := fun u => J v mX3_uniteBlocks (rmOf 3 0 0) (KM v (pV (gH v h g (G.unite a b)) top) noX 0 0) top 0 0 (gH v h g (G.sB (unB G.B a b u))) top 18 [some (.ref g), some (.int (nI a)), some (.int (nI b)), some (.int (nI (G.B a))), some (.int (nI (G.B b))), some (.int (nI u))] []) ?_ ?_ 0 (by omega)
  · have hg2 := gH_is v h g (G.sB (unB G.B a b G.n))
    refine r_iload (pc := 18) (i := 5) (tX3_uniteBlocks.at 12 rfl) rfl ?_
    refine r_aload_n (pc := 20) (i := 0) (tX3_uniteBlocks.at 13 rfl) rfl rfl ?_
    refine r_get (pc := 21) (tX3_uniteBlocks.at 14 rfl) gf_X3_9 (hg2.1) rfl ?_
    rw [show (G.sB (unB G.B a b G.n)).n = G.n from rfl]
    refine r_icmp_geN (pc := 24) 53 (tX3_uniteBlocks.at 15 rfl) (by decide) (by omega) (by omega) (fun _ => ?_) (fun c => by omega)
    have hB2 : ∀ k, k < 6 → (G.sB (unB G.B a b G.n)).B k < 2147483648 := fun k hk => by
      show unB G.B a b G.n k < _
      unfold unB
      split
      · exact hB a ha
      · exact hB k hk
    refine r_aload_n (pc := 53) (i := 0) (tX3_uniteBlocks.at 29 rfl) rfl rfl ?_
    refine r_callV (M' := mX3_numberBlocks) (pc := 54) (tX3_uniteBlocks.at 30 rfl) ml_X3_90 rfl mw_X3_numberBlocks ⟨by decide, by decide⟩ (hg2.1) rfl rfl (c_numB (G := G.sB (unB G.B a b G.n)) hn hB2) rfl rfl (Nat.le_of_ble_eq_true rfl) (Nat.le_of_ble_eq_true rfl) (Nat.le_of_ble_eq_true rfl) ?_
    rintro _ _ _ ⟨rfl, rfl, rfl⟩
    refine r_vret (pc := 57) (tX3_uniteBlocks.at 31 rfl) rfl (Nat.le_of_ble_eq_true rfl) (Nat.le_of_ble_eq_true rfl) ?_
    exact ⟨rfl, rfl, rfl⟩
  · intro u hu ih
    have hg2 := gH_is v h g (G.sB (unB G.B a b u))
    have eu : (G.sB (unB G.B a b u)).B u = G.B u := by
      show unB G.B a b u u = _
      unfold unB
      rw [if_neg (by omega)]
    refine r_iload (pc := 18) (i := 5) (tX3_uniteBlocks.at 12 rfl) rfl ?_
    refine r_aload_n (pc := 20) (i := 0) (tX3_uniteBlocks.at 13 rfl) rfl rfl ?_
    refine r_get (pc := 21) (tX3_uniteBlocks.at 14 rfl) gf_X3_9 (hg2.1) rfl ?_
    rw [show (G.sB (unB G.B a b u)).n = G.n from rfl]
    refine r_icmp_geN (pc := 24) 53 (tX3_uniteBlocks.at 15 rfl) (by decide) (by omega) (by omega) (fun c => by omega) (fun _ => ?_)
    refine r_aload_n (pc := 27) (i := 0) (tX3_uniteBlocks.at 16 rfl) rfl rfl ?_
    refine r_get (pc := 28) (tX3_uniteBlocks.at 17 rfl) gf_X3_34 (hg2.1) rfl ?_
    refine r_iload (pc := 31) (i := 5) (tX3_uniteBlocks.at 18 rfl) rfl ?_
    refine r_iald (pc := 33) (tX3_uniteBlocks.at 19 rfl) (hg2.2.2.2.2.1) (u) (rfl) (by omega) (Nat.le_of_ble_eq_true rfl) ?_
    refine r_iload (pc := 34) (i := 4) (tX3_uniteBlocks.at 20 rfl) rfl ?_
    rw [show iF (G.sB (unB G.B a b u)).B u = nI (G.B u) from congrArg nI eu]
    have b1 := hB u (by omega)
    have b2 := hB b hb
    rw [unB_s] at ih
    refine r_icmp_neN (pc := 36) 47 (tX3_uniteBlocks.at 21 rfl) (by decide) (by omega) (by omega) (fun c => ?_) (fun c => ?_)
    · first | refine r_iincN (pc := 47) (tX3_uniteBlocks.at 27 rfl) rfl (by decide) ?_ | refine r_iinc (pc := 47) (tX3_uniteBlocks.at 27 rfl) rfl rfl (by decide) ?_
      refine r_goto (pc := 50) 18 (tX3_uniteBlocks.at 28 rfl) (by decide) ?_
      rw [if_neg c] at ih
      exact ih
    · refine r_aload_n (pc := 39) (i := 0) (tX3_uniteBlocks.at 22 rfl) rfl rfl ?_
      refine r_get (pc := 40) (tX3_uniteBlocks.at 23 rfl) gf_X3_34 (hg2.1) rfl ?_
      refine r_iload (pc := 43) (i := 5) (tX3_uniteBlocks.at 24 rfl) rfl ?_
      refine r_iload_n (pc := 45) (i := 3) (tX3_uniteBlocks.at 25 rfl) rfl rfl ?_
      refine r_iast (pc := 46) (tX3_uniteBlocks.at 26 rfl) (hg2.2.2.2.2.1) (u) (rfl) (by omega) (Nat.le_of_ble_eq_true rfl) ?_
      rw [upd_iF, gH_pB]
      first | refine r_iincN (pc := 47) (tX3_uniteBlocks.at 27 rfl) rfl (by decide) ?_ | refine r_iinc (pc := 47) (tX3_uniteBlocks.at 27 rfl) rfl rfl (by decide) ?_
      refine r_goto (pc := 50) 18 (tX3_uniteBlocks.at 28 rfl) (by decide) ?_
      rw [if_pos c] at ih
      exact ih
def GT.isol (G : GT) (x : Nat) : GT := (G.sB (upN G.B x 6)).num
