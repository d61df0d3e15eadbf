/-! ===== Stroll; constructors ===== -/
section
variable {v : Ev} {M : Md} {R : Room} {K : List Frame → Array Value → State → State → Prop} {t0 cells slots : Nat} {h : Hp} {top pc : Nat} {ls : List (Option Value)} {st : List Value}
theorem r_if_ltZ {a : Int} {off : Int} (tgt : Nat) (d : decode M.2.1 pc = .ok (.ifCond .lt off, 3)) (ht : (pc : Int) + off = (tgt : Int)) (ha : inI a) (kt : a < 0 → J v M R K t0 cells slots h top tgt ls st) (kf : 0 ≤ a → J v M R K t0 cells slots h top (pc + 3) ls st) : J v M R K t0 cells slots h top pc ls (.int (zI a) :: st) :=
  r_if_lt tgt d ht (fun q => kt ((zI_lt ha (b := 0) ⟨by omega, by omega⟩).mp q)) (fun q => kf (Int.not_lt.mp (fun z => q ((zI_lt ha (b := 0) ⟨by omega, by omega⟩).mpr z))))
theorem r_if_geZ {a : Int} {off : Int} (tgt : Nat) (d : decode M.2.1 pc = .ok (.ifCond .ge off, 3)) (ht : (pc : Int) + off = (tgt : Int)) (ha : inI a) (kt : 0 ≤ a → J v M R K t0 cells slots h top tgt ls st) (kf : a < 0 → J v M R K t0 cells slots h top (pc + 3) ls st) : J v M R K t0 cells slots h top pc ls (.int (zI a) :: st) :=
  r_if_ge tgt d ht (fun q => kt ((zI_le (a := 0) ⟨by omega, by omega⟩ ha).mp q)) (fun q => kf (Int.not_le.mp (fun z => q ((zI_le (a := 0) ⟨by omega, by omega⟩ ha).mpr z))))
end
def stE (dr pl sn ct : Nat) (su : Int) : va_E := ob 8 [.long (lI dr), .int (nI pl), .int (nI sn), .int (nI ct), .int (zI su)]
def nxD (dr : Nat) : Nat := (dr * 1103515245 + 12345) % 2147483648
def wkF (W : Nat → Nat) (n x d : Nat) : Nat := fstN (fun u => decide (d < degN W x (u + 1))) n
/-- a draw: what is drawn next and where it leads -/
def drS (W : Nat → Nat) (n dr x : Nat) : Nat × Nat := if degN W x n = 0 then (dr, x) else (nxD dr, wkF W n x (nxD dr / 65536 % degN W x n))
theorem nxD_lt (dr : Nat) : nxD dr < 2147483648 := Nat.mod_lt _ (by omega)
theorem wkF_lt {W : Nat → Nat} {n x d : Nat} (hd : d < degN W x n) : wkF W n x d < n := by
  obtain ⟨h1, h2, -⟩ := fstN_spec (fun u => decide (d < degN W x (u + 1))) n
  rcases Nat.lt_or_ge (wkF W n x d) n with h | h
  · exact h
  · have e : wkF W n x d = n := Nat.le_antisymm h1 h
    rcases n with _ | n
    · simp [degN, sN] at hd
    · have := h2 n (by unfold wkF at e; omega)
      simp at this
      omega
theorem drS_lt {W : Nat → Nat} {n dr x : Nat} (hd : dr < 2147483648) (hx : x < n) : (drS W n dr x).1 < 2147483648 ∧ (drS W n dr x).2 < n := by
  unfold drS
  split
  · exact ⟨hd, hx⟩
  · exact ⟨nxD_lt _, wkF_lt (Nat.mod_lt _ (by omega))⟩
theorem c_draw {v : Ev} {h : Hp} {top q g dr x sn ct : Nat} {su : Int} {G : GT} (hg : isG v h g G) (hd : g + 6 ≤ q ∨ q + 1 ≤ g) (hn : G.n ≤ 6) (hW : ∀ k, k < 36 → G.W k ≤ 9) (hdr : dr < 2147483648) (hx : x < G.n) :
    Cal v mX8_drawStep 3 0 0 [.ref q, .ref g] (hp h q (stE dr x sn ct su)) top (pR (.int (nI (drS G.W G.n dr x).2)) (hp h q (stE (drS G.W G.n dr x).1 x sn ct su)) top) noX := by
  have gG : ∀ e, isG v (hp h q e) g G := fun e => hg.put (by omega)
  have hdg := degN_le (x := x) hn (by omega) hW
  refine Cal.ofJ (by decide +kernel) rfl (Nat.le_of_ble_eq_true rfl) fun hz0 => ?_
  refine r_ls [some (.ref q), some (.ref g), none, none, none, none, none, none] rfl ?_
  refine r_aload_n (pc := 0) (i := 1) (tX8_drawStep.at 0 rfl) rfl rfl ?_
  refine r_aload_n (pc := 1) (i := 0) (tX8_drawStep.at 1 rfl) rfl rfl ?_
  refine r_get (pc := 2) (tX8_drawStep.at 2 rfl) gf_X8_13 (hp_eq _ _ _) rfl ?_
  refine r_callV (M' := mX3_sumOfWeights) (pc := 5) (tX8_drawStep.at 3 rfl) ml_X8_42 rfl mw_X3_sumOfWeights ⟨by decide, by decide⟩ ((gG _).1) rfl rfl (c_sow (gG _) hn (by omega)) rfl rfl (Nat.le_of_ble_eq_true rfl) (Nat.le_of_ble_eq_true rfl) (Nat.le_of_ble_eq_true rfl) ?_
  rintro _ _ _ ⟨rfl, rfl, rfl⟩
  refine r_istore_n (pc := 8) (i := 2) (tX8_drawStep.at 4 rfl) rfl (by decide) ?_
  refine r_iload_n (pc := 9) (i := 2) (tX8_drawStep.at 5 rfl) rfl rfl ?_
  refine r_if_gtN (pc := 10) 18 (tX8_drawStep.at 6 rfl) (by decide) (by omega) (fun c => ?_) (fun c => ?_)
  · have e : drS G.W G.n dr x = (nxD dr, wkF G.W G.n x (nxD dr / 65536 % degN G.W x G.n)) := by rw [drS, if_neg (by omega)]
    rw [e]
    have hn1 := nxD_lt dr
    refine r_aload_n (pc := 18) (i := 0) (tX8_drawStep.at 10 rfl) rfl rfl ?_
    refine r_aload_n (pc := 19) (i := 0) (tX8_drawStep.at 11 rfl) rfl rfl ?_
    refine r_get (pc := 20) (tX8_drawStep.at 12 rfl) gf_X8_7 (hp_eq _ _ _) rfl ?_
    refine r_ldc2 (pc := 23) (tX8_drawStep.at 13 rfl) lcL_X8_46 ?_
    first | refine r_lmulL (pc := 26) (tX8_drawStep.at 14 rfl) ?_ | refine r_lmul (pc := 26) (tX8_drawStep.at 14 rfl) ?_
    refine r_ldc2 (pc := 27) (tX8_drawStep.at 15 rfl) lcL_X8_48 ?_
    first | refine r_laddL (pc := 30) (tX8_drawStep.at 16 rfl) ?_ | refine r_ladd (pc := 30) (tX8_drawStep.at 16 rfl) ?_
    refine r_ldc2 (pc := 31) (tX8_drawStep.at 17 rfl) lcL_X8_50 ?_
    refine r_lremL (pc := 34) (tX8_drawStep.at 18 rfl) (⟨by omega, by omega⟩) (⟨by omega, by omega⟩) (by omega) ?_
    rw [show ((dr : Int) * 1103515245 + 12345).tmod 2147483648 = ((nxD dr : Nat) : Int) from (Int.ofNat_tmod _ _).symm]
    refine r_put (pc := 35) (tX8_drawStep.at 19 rfl) pf_X8_7 (hp_eq _ _ _) (Nat.le_of_ble_eq_true rfl) (rfl) (rfl) ?_
    refine r_eq (h2 := hp h q (stE (nxD dr) x sn ct su)) (by rw [hp_hp]; rfl) rfl ?_
    refine r_aload_n (pc := 38) (i := 0) (tX8_drawStep.at 20 rfl) rfl rfl ?_
    refine r_get (pc := 39) (tX8_drawStep.at 21 rfl) gf_X8_7 (hp_eq _ _ _) rfl ?_
    refine r_ldc2 (pc := 42) (tX8_drawStep.at 22 rfl) lcL_X8_52 ?_
    refine r_ldivL (pc := 45) (tX8_drawStep.at 23 rfl) (⟨by omega, by omega⟩) (⟨by omega, by omega⟩) (by omega) ?_
    rw [show ((nxD dr : Nat) : Int).tdiv 65536 = ((nxD dr / 65536 : Nat) : Int) from (Int.ofNat_tdiv _ _).symm]
    refine r_iload_n (pc := 46) (i := 2) (tX8_drawStep.at 24 rfl) rfl rfl ?_
    first | refine r_i2lN (pc := 47) (tX8_drawStep.at 25 rfl) (by omega) ?_ | refine r_i2lZ (pc := 47) (tX8_drawStep.at 25 rfl) ⟨by omega, by omega⟩ ?_ | refine r_i2l (pc := 47) (tX8_drawStep.at 25 rfl) ?_
    refine r_lremL (pc := 48) (tX8_drawStep.at 26 rfl) (⟨by omega, by omega⟩) (⟨by omega, by omega⟩) (by omega) ?_
    rw [show ((nxD dr / 65536 : Nat) : Int).tmod (degN G.W x G.n : Nat) = ((nxD dr / 65536 % degN G.W x G.n : Nat) : Int) from (Int.ofNat_tmod _ _).symm]
    have hdd : nxD dr / 65536 % degN G.W x G.n < degN G.W x G.n := Nat.mod_lt _ (by omega)
    generalize hdw : nxD dr / 65536 % degN G.W x G.n = d at hdd ⊢
    refine r_lstore_n (pc := 49) (i := 3) (tX8_drawStep.at 27 rfl) rfl (by decide) ?_
    refine r_lconst (pc := 50) (w := lI 0) (tX8_drawStep.at 28 rfl) (by decide) ?_
    refine r_lstore (pc := 51) (i := 5) (tX8_drawStep.at 29 rfl) (by decide) ?_
    refine r_iconst (pc := 53) (w := nI 0) (tX8_drawStep.at 30 rfl) (by decide) ?_
    refine r_istore (pc := 54) (i := 7) (tX8_drawStep.at 31 rfl) (by decide) ?_
    have key : ∀ m u, u + m = G.n → (∀ j, j < u → ¬ d < degN G.W x (j + 1)) → J v mX8_drawStep (rmOf 3 0 0) (KM v (pR (.int (nI (wkF G.W G.n x d))) (hp h q (stE (nxD dr) x sn ct su)) top) noX 0 0) top 0 0 (hp h q (stE (nxD dr) x sn ct su)) top 56 [some (.ref q), some (.ref g), some (.int (nI (degN G.W x G.n))), some (.long (lI d)), none, some (.long (lI (degN G.W x u : Nat))), none, some (.int (nI u))] [] := by
      intro m
      induction m with
      | zero =>
        intro u hu hj
        exfalso
        have := wkF_lt hdd
        obtain ⟨-, -, h3⟩ := fstN_spec (fun u => decide (d < degN G.W x (u + 1))) G.n
        have h4 := h3 this
        simp at h4
        exact hj _ (by unfold wkF at this; omega) h4
      | succ m ih =>
        intro u hu hj
        have hw := hW (x * 6 + u) (by omega)
        have hdu := degN_le (x := x) (n := u) (by omega) (by omega) hW
        have es : degN G.W x (u + 1) = degN G.W x u + G.W (x * 6 + u) := rfl
        refine r_iload (pc := 56) (i := 7) (tX8_drawStep.at 32 rfl) rfl ?_
        refine r_aload_n (pc := 58) (i := 1) (tX8_drawStep.at 33 rfl) rfl rfl ?_
        refine r_get (pc := 59) (tX8_drawStep.at 34 rfl) gf_X8_54 ((gG _).1) rfl ?_
        refine r_icmp_geN (pc := 62) 97 (tX8_drawStep.at 35 rfl) (by decide) (by omega) (by omega) (fun c => by omega) (fun _ => ?_)
        refine r_lload (pc := 65) (i := 5) (tX8_drawStep.at 36 rfl) rfl ?_
        refine r_aload_n (pc := 67) (i := 1) (tX8_drawStep.at 37 rfl) rfl rfl ?_
        refine r_aload_n (pc := 68) (i := 0) (tX8_drawStep.at 38 rfl) rfl rfl ?_
        refine r_get (pc := 69) (tX8_drawStep.at 39 rfl) gf_X8_13 (hp_eq _ _ _) rfl ?_
        refine r_iload (pc := 72) (i := 7) (tX8_drawStep.at 40 rfl) rfl ?_
        refine r_callV (M' := mX3_weightBetween) (pc := 74) (tX8_drawStep.at 41 rfl) ml_X8_57 rfl mw_X3_weightBetween ⟨by decide, by decide⟩ ((gG _).1) rfl rfl (c_wb (gG _) (a := x) (b := u) (by omega)) rfl rfl (Nat.le_of_ble_eq_true rfl) (Nat.le_of_ble_eq_true rfl) (Nat.le_of_ble_eq_true rfl) ?_
        rintro _ _ _ ⟨rfl, rfl, rfl⟩
        first | refine r_i2lN (pc := 77) (tX8_drawStep.at 42 rfl) (by omega) ?_ | refine r_i2lZ (pc := 77) (tX8_drawStep.at 42 rfl) ⟨by omega, by omega⟩ ?_ | refine r_i2l (pc := 77) (tX8_drawStep.at 42 rfl) ?_
        first | refine r_laddL (pc := 78) (tX8_drawStep.at 43 rfl) ?_ | refine r_ladd (pc := 78) (tX8_drawStep.at 43 rfl) ?_
        refine r_lstore (pc := 79) (i := 5) (tX8_drawStep.at 44 rfl) (by decide) ?_
        refine r_lload (pc := 81) (i := 5) (tX8_drawStep.at 45 rfl) rfl ?_
        refine r_lload_n (pc := 83) (i := 3) (tX8_drawStep.at 46 rfl) rfl rfl ?_
        refine r_lc_le (pc := 84) 91 (tX8_drawStep.at 47 rfl) (tX8_drawStep.at 48 rfl) (by decide) (⟨by omega, by omega⟩) (⟨by omega, by omega⟩) (fun c3 => ?_) (fun c3 => ?_)
        · first | refine r_iincN (pc := 91) (tX8_drawStep.at 51 rfl) rfl (by decide) ?_ | refine r_iinc (pc := 91) (tX8_drawStep.at 51 rfl) rfl rfl (by decide) ?_
          refine r_goto (pc := 94) 56 (tX8_drawStep.at 52 rfl) (by decide) ?_
          exact ih (u + 1) (by omega) (fun j hj2 => by
            by_cases h1 : j < u
            · exact hj j h1
            · rw [show j = u by omega]
              omega)
        · refine r_iload (pc := 88) (i := 7) (tX8_drawStep.at 49 rfl) rfl ?_
          refine r_iret (pc := 90) (tX8_drawStep.at 50 rfl) rfl (Nat.le_of_ble_eq_true rfl) (Nat.le_of_ble_eq_true rfl) ?_
          rw [wkF, fstN_is (show u ≤ G.n by omega) (fun j hj2 => by simpa using hj j hj2) (Or.inr (by simp; omega))]
          exact ⟨rfl, rfl, rfl⟩
    exact key G.n 0 (by omega) (fun j hj => by omega)
  · have e : drS G.W G.n dr x = (dr, x) := by rw [drS, if_pos (by omega)]
    rw [e]
    refine r_aload_n (pc := 13) (i := 0) (tX8_drawStep.at 7 rfl) rfl rfl ?_
    refine r_get (pc := 14) (tX8_drawStep.at 8 rfl) gf_X8_13 (hp_eq _ _ _) rfl ?_
    refine r_iret (pc := 17) (tX8_drawStep.at 9 rfl) rfl (Nat.le_of_ble_eq_true rfl) (Nat.le_of_ble_eq_true rfl) ?_
    exact ⟨rfl, rfl, rfl⟩
/-- a walk's state: drawn, place, seen, cost, steps until absorbing -/
abbrev WK : Type := (Nat × Nat) × (Nat × Nat) × Int
def wkN (W : Nat → Nat) (n ab : Nat) (T : Nat → Nat) (s : WK) (k : Nat) : WK :=
  let d := drS W n s.1.1 s.1.2
  (d, (s.2.1.1 ||| 2 ^ d.2, s.2.1.2 + T (s.1.2 * 6 + d.2)), if s.2.2 < 0 ∧ ab.testBit d.2 = true then (k : Int) else s.2.2)
def wkS (W : Nat → Nat) (n ab : Nat) (T : Nat → Nat) (x seed : Nat) : Nat → WK
  | 0 => ((seed, x), (2 ^ x, 0), if ab.testBit x = true then 0 else -1)
  | k + 1 => wkN W n ab T (wkS W n ab T x seed k) (k + 1)
def stK (s : WK) : va_E := stE s.1.1 s.1.2 s.2.1.1 s.2.1.2 s.2.2
theorem wkS_b {W : Nat → Nat} {n ab x seed : Nat} {T : Nat → Nat} (hn : n ≤ 6) (hx : x < n) (hs : seed < 2147483648) : ∀ k, (wkS W n ab T x seed k).1.1 < 2147483648 ∧ (wkS W n ab T x seed k).1.2 < n ∧ (wkS W n ab T x seed k).2.1.1 < 64 ∧ -1 ≤ (wkS W n ab T x seed k).2.2 ∧ (wkS W n ab T x seed k).2.2 ≤ k
  | 0 => ⟨hs, hx, Nat.lt_of_lt_of_le (Nat.pow_lt_pow_right (by omega) (show x < 6 by omega)) (by decide), by
      show -1 ≤ (if ab.testBit x = true then (0 : Int) else -1)
      split <;> omega, by
      show (if ab.testBit x = true then (0 : Int) else -1) ≤ _
      split <;> omega⟩
  | k + 1 => by
    obtain ⟨h1, h2, h3, h4, h5⟩ := wkS_b (W := W) (ab := ab) (T := T) hn hx hs k
    obtain ⟨g1, g2⟩ := drS_lt (W := W) h1 h2
    rw [wkS]
    refine ⟨g1, g2, ?_, ?_, ?_⟩
    · exact bs_or_lt (n := 6) h3 (Nat.pow_lt_pow_right (by omega) (show _ < 6 by omega))
    · unfold wkN
      simp only
      split <;> omega
    · unfold wkN
      simp only
      split <;> omega
theorem c_go {v : Ev} {h : Hp} {top q g cq x n seed : Nat} {e0 : va_E} {G : GT} {T : Nat → Nat} (he0 : ∃ dr pl sn ct su, e0 = stE dr pl sn ct su) (hg : isG v h g G) (hd : g + 6 ≤ q ∨ q + 1 ≤ g) (hc0 : h cq = some (ob 0 [.ref (cq + 1), .ref (cq + 2)])) (hcT : h (cq + 2) = some (aI v 36 (iF T))) (hcd : cq + 3 ≤ q ∨ q + 1 ≤ cq) (hn : G.n ≤ 6) (hW : ∀ k, k < 36 → G.W k ≤ 9) (ha : G.a < 64) (hx : x < G.n) (hs : seed < 2147483648) (hk : n ≤ 1000) :
    Cal v mX8_go 4 0 0 [.ref q, .ref g, .ref cq, .int (nI x), .int (nI n), .int (nI seed)] (hp h q e0) top (pV (hp h q (stK (wkS G.W G.n G.a T x seed n))) top) noX := by
  obtain ⟨dr0, pl0, sn0, ct0, su0, rfl⟩ := he0
  have gG : ∀ e, isG v (hp h q e) g G := fun e => hg.put (by omega)
  have c0 : ∀ e, hp h q e cq = some (ob 0 [.ref (cq + 1), .ref (cq + 2)]) := fun e => (hp_ne _ _ (by omega)).trans hc0
  have cT : ∀ e, hp h q e (cq + 2) = some (aI v 36 (iF T)) := fun e => (hp_ne _ _ (by omega)).trans hcT
  refine Cal.ofJ (by decide +kernel) rfl (Nat.le_of_ble_eq_true rfl) fun hz0 => ?_
  refine r_ls [some (.ref q), some (.ref g), some (.ref cq), some (.int (nI x)), some (.int (nI n)), some (.int (nI seed)), none, none] rfl ?_
  refine r_aload_n (pc := 0) (i := 0) (tX8_go.at 0 rfl) rfl rfl ?_
  refine r_iload (pc := 1) (i := 5) (tX8_go.at 1 rfl) rfl ?_
  first | refine r_i2lN (pc := 3) (tX8_go.at 2 rfl) (by omega) ?_ | refine r_i2lZ (pc := 3) (tX8_go.at 2 rfl) ⟨by omega, by omega⟩ ?_ | refine r_i2l (pc := 3) (tX8_go.at 2 rfl) ?_
  refine r_put (pc := 4) (tX8_go.at 3 rfl) pf_X8_7 (hp_eq _ _ _) (Nat.le_of_ble_eq_true rfl) (rfl) (rfl) ?_
  refine r_aload_n (pc := 7) (i := 0) (tX8_go.at 4 rfl) rfl rfl ?_
  refine r_iload_n (pc := 8) (i := 3) (tX8_go.at 5 rfl) rfl rfl ?_
  refine r_put (pc := 9) (tX8_go.at 6 rfl) pf_X8_13 (hp_eq _ _ _) (Nat.le_of_ble_eq_true rfl) (rfl) (rfl) ?_
  refine r_aload_n (pc := 12) (i := 0) (tX8_go.at 7 rfl) rfl rfl ?_
  refine r_iconst (pc := 13) (w := nI 1) (tX8_go.at 8 rfl) (by decide) ?_
  refine r_iload_n (pc := 14) (i := 3) (tX8_go.at 9 rfl) rfl rfl ?_
  rw [hp_hp, hp_hp]
  refine r_ishl (pc := 15) (tX8_go.at 10 rfl) ?_
  rw [bs_one x (by omega)]
  refine r_put (pc := 16) (tX8_go.at 11 rfl) pf_X8_17 (hp_eq _ _ _) (Nat.le_of_ble_eq_true rfl) (rfl) (rfl) ?_
  refine r_aload_n (pc := 19) (i := 0) (tX8_go.at 12 rfl) rfl rfl ?_
  refine r_iconst (pc := 20) (w := nI 0) (tX8_go.at 13 rfl) (by decide) ?_
  refine r_put (pc := 21) (tX8_go.at 14 rfl) pf_X8_20 (hp_eq _ _ _) (Nat.le_of_ble_eq_true rfl) (rfl) (rfl) ?_
  rw [hp_hp, hp_hp]
  have hb : Bool.toNat (G.a.testBit x) ≤ 1 := Bool.toNat_le _
  have fin : ∀ z, z = (if G.a.testBit x = true then (0 : Int) else -1) → J v mX8_go (rmOf 4 0 0) (KM v (pV (hp h q (stK (wkS G.W G.n G.a T x seed n))) top) noX 0 0) top 0 0 (hp h q (stE seed x (2 ^ x) 0 su0)) top 38 [some (.ref q), some (.ref g), some (.ref cq), some (.int (nI x)), some (.int (nI n)), some (.int (nI seed)), none, none] [.int (zI z), .ref q] := by
    intro z hz
    refine r_put (pc := 38) (tX8_go.at 23 rfl) pf_X8_23 (hp_eq _ _ _) (Nat.le_of_ble_eq_true rfl) (rfl) (rfl) ?_
    refine r_eq (h2 := hp h q (stK (wkS G.W G.n G.a T x seed 0))) (by rw [hp_hp, hz]; rfl) rfl ?_
    refine r_iconst (pc := 41) (w := nI 1) (tX8_go.at 24 rfl) (by decide) ?_
    refine r_istore (pc := 42) (i := 6) (tX8_go.at 25 rfl) (by decide) ?_
    have key : ∀ m k o, k + m = n → J v mX8_go (rmOf 4 0 0) (KM v (pV (hp h q (stK (wkS G.W G.n G.a T x seed n))) top) noX 0 0) top 0 0 (hp h q (stK (wkS G.W G.n G.a T x seed k))) top 44 [some (.ref q), some (.ref g), some (.ref cq), some (.int (nI x)), some (.int (nI n)), some (.int (nI seed)), some (.int (nI (k + 1))), o] [] := by
      intro m
      induction m with
      | zero =>
        intro k o hk2
        have hk2 : k = n := by omega
        subst hk2
        refine r_iload (pc := 44) (i := 6) (tX8_go.at 26 rfl) rfl ?_
        refine r_iload (pc := 46) (i := 4) (tX8_go.at 27 rfl) rfl ?_
        refine r_icmp_gtN (pc := 48) 124 (tX8_go.at 28 rfl) (by decide) (by omega) (by omega) (fun _ => ?_) (fun c => by omega)
        refine r_vret (pc := 124) (tX8_go.at 66 rfl) rfl (Nat.le_of_ble_eq_true rfl) (Nat.le_of_ble_eq_true rfl) ?_
        exact ⟨rfl, rfl, rfl⟩
      | succ m ih =>
        intro k o hk2
        obtain ⟨b1, b2, b3, b4, b5⟩ := wkS_b (W := G.W) (ab := G.a) (T := T) hn hx hs k
        have nx := ih (k + 1)
        rw [wkS] at nx
        generalize wkS G.W G.n G.a T x seed k = s at b1 b2 b3 b4 b5 nx ⊢
        obtain ⟨⟨dr, pl⟩, ⟨sn, ct⟩, su⟩ := s
        dsimp only at b1 b2 b3 b4 b5
        obtain ⟨d1, d2⟩ := drS_lt (W := G.W) b1 b2
        generalize hD : drS G.W G.n dr pl = D at d1 d2
        obtain ⟨dr2, to⟩ := D
        have hp6' : 2 ^ to < 64 := Nat.lt_of_lt_of_le (Nat.pow_lt_pow_right (by omega) (show to < 6 by omega)) (by decide)
        have eN : wkN G.W G.n G.a T ((dr, pl), (sn, ct), su) (k + 1) = ((dr2, to), (sn ||| 2 ^ to, ct + T (pl * 6 + to)), if su < 0 ∧ G.a.testBit to = true then ((k + 1 : Nat) : Int) else su) := by
          unfold wkN
          simp only [hD]
        rw [eN] at nx
        have cD := c_draw (v := v) (h := h) (top := top) (q := q) (g := g) (sn := sn) (ct := ct) (su := su) hg hd hn hW b1 b2
        rw [hD] at cD
        refine r_iload (pc := 44) (i := 6) (tX8_go.at 26 rfl) rfl ?_
        refine r_iload (pc := 46) (i := 4) (tX8_go.at 27 rfl) rfl ?_
        refine r_icmp_gtN (pc := 48) 124 (tX8_go.at 28 rfl) (by decide) (by omega) (by omega) (fun c => by omega) (fun _ => ?_)
        refine r_aload_n (pc := 51) (i := 0) (tX8_go.at 29 rfl) rfl rfl ?_
        refine r_aload_n (pc := 52) (i := 1) (tX8_go.at 30 rfl) rfl rfl ?_
        refine r_callV (M' := mX8_drawStep) (pc := 53) (tX8_go.at 31 rfl) ml_X8_32 rfl mw_X8_drawStep ⟨by decide, by decide⟩ (hp_eq _ _ _) rfl rfl (cD) rfl rfl (Nat.le_of_ble_eq_true rfl) (Nat.le_of_ble_eq_true rfl) (Nat.le_of_ble_eq_true rfl) ?_
        rintro _ _ _ ⟨rfl, rfl, rfl⟩
        refine r_istore (pc := 56) (i := 7) (tX8_go.at 32 rfl) (by decide) ?_
        refine r_aload_n (pc := 58) (i := 0) (tX8_go.at 33 rfl) rfl rfl ?_
        refine r_dup (pc := 59) (tX8_go.at 34 rfl) rfl ?_
        refine r_get (pc := 60) (tX8_go.at 35 rfl) gf_X8_20 (hp_eq _ _ _) rfl ?_
        refine r_aload_n (pc := 63) (i := 2) (tX8_go.at 36 rfl) rfl rfl ?_
        refine r_aload_n (pc := 64) (i := 0) (tX8_go.at 37 rfl) rfl rfl ?_
        refine r_get (pc := 65) (tX8_go.at 38 rfl) gf_X8_13 (hp_eq _ _ _) rfl ?_
        refine r_iload (pc := 68) (i := 7) (tX8_go.at 39 rfl) rfl ?_
        refine r_callV (M' := mX0_tabled) (pc := 70) (tX8_go.at 40 rfl) ml_X8_36 rfl mw_X0_tabled ⟨by decide, by decide⟩ (c0 _) rfl rfl (c_tabled (c0 _) (cT _) (x := pl) (y := to) (by omega) (by omega)) rfl rfl (Nat.le_of_ble_eq_true rfl) (Nat.le_of_ble_eq_true rfl) (Nat.le_of_ble_eq_true rfl) ?_
        rintro _ _ _ ⟨rfl, rfl, rfl⟩
        first | refine r_iaddN (pc := 73) (tX8_go.at 41 rfl) ?_ | refine r_iaddZ (pc := 73) (tX8_go.at 41 rfl) ?_ | refine r_iadd (pc := 73) (tX8_go.at 41 rfl) ?_
        refine r_put (pc := 74) (tX8_go.at 42 rfl) pf_X8_20 (hp_eq _ _ _) (Nat.le_of_ble_eq_true rfl) (rfl) (rfl) ?_
        refine r_aload_n (pc := 77) (i := 0) (tX8_go.at 43 rfl) rfl rfl ?_
        refine r_iload (pc := 78) (i := 7) (tX8_go.at 44 rfl) rfl ?_
        refine r_put (pc := 80) (tX8_go.at 45 rfl) pf_X8_13 (hp_eq _ _ _) (Nat.le_of_ble_eq_true rfl) (rfl) (rfl) ?_
        rw [hp_hp, hp_hp]
        refine r_aload_n (pc := 83) (i := 0) (tX8_go.at 46 rfl) rfl rfl ?_
        refine r_dup (pc := 84) (tX8_go.at 47 rfl) rfl ?_
        refine r_get (pc := 85) (tX8_go.at 48 rfl) gf_X8_17 (hp_eq _ _ _) rfl ?_
        refine r_iconst (pc := 88) (w := nI 1) (tX8_go.at 49 rfl) (by decide) ?_
        refine r_iload (pc := 89) (i := 7) (tX8_go.at 50 rfl) rfl ?_
        refine r_ishl (pc := 91) (tX8_go.at 51 rfl) ?_
        rw [bs_one to (by omega)]
        refine r_ior (pc := 92) (tX8_go.at 52 rfl) ?_
        rw [bs_or _ b3 _ hp6']
        refine r_put (pc := 93) (tX8_go.at 53 rfl) pf_X8_17 (hp_eq _ _ _) (Nat.le_of_ble_eq_true rfl) (rfl) (rfl) ?_
        refine r_eq (h2 := hp h q (stE dr2 to (sn ||| 2 ^ to) (ct + T (pl * 6 + to)) su)) (by rw [hp_hp]; rfl) rfl ?_
        refine r_aload_n (pc := 96) (i := 0) (tX8_go.at 54 rfl) rfl rfl ?_
        refine r_get (pc := 97) (tX8_go.at 55 rfl) gf_X8_23 (hp_eq _ _ _) rfl ?_
        refine r_if_geZ (pc := 100) 118 (tX8_go.at 56 rfl) (by decide) ⟨by omega, by omega⟩ (fun c => ?_) (fun c => ?_)
        · first | refine r_iincN (pc := 118) (tX8_go.at 64 rfl) rfl (by decide) ?_ | refine r_iinc (pc := 118) (tX8_go.at 64 rfl) rfl rfl (by decide) ?_
          refine r_goto (pc := 121) 44 (tX8_go.at 65 rfl) (by decide) ?_
          have nx2 := nx (some (.int (nI to))) (by omega)
          rw [if_neg (by omega)] at nx2
          exact nx2
        · refine r_aload_n (pc := 103) (i := 1) (tX8_go.at 57 rfl) rfl rfl ?_
          refine r_iload (pc := 104) (i := 7) (tX8_go.at 58 rfl) rfl ?_
          refine r_callV (M' := mX3_isAbsorbing) (pc := 106) (tX8_go.at 59 rfl) ml_X8_26 rfl mw_X3_isAbsorbing ⟨by decide, by decide⟩ ((gG _).1) rfl rfl (c_isAbs (gG _) ha (y := to) (by omega)) rfl rfl (Nat.le_of_ble_eq_true rfl) (Nat.le_of_ble_eq_true rfl) (Nat.le_of_ble_eq_true rfl) ?_
          rintro _ _ _ ⟨rfl, rfl, rfl⟩
          have hb2 : Bool.toNat (G.a.testBit to) ≤ 1 := Bool.toNat_le _
          refine r_if_eqN (pc := 109) 118 (tX8_go.at 60 rfl) (by decide) (by omega) (fun c2 => ?_) (fun c2 => ?_)
          · first | refine r_iincN (pc := 118) (tX8_go.at 64 rfl) rfl (by decide) ?_ | refine r_iinc (pc := 118) (tX8_go.at 64 rfl) rfl rfl (by decide) ?_
            refine r_goto (pc := 121) 44 (tX8_go.at 65 rfl) (by decide) ?_
            have nx2 := nx (some (.int (nI to))) (by omega)
            rw [if_neg (by intro z; rw [z.2] at c2; cases c2)] at nx2
            exact nx2
          · refine r_aload_n (pc := 112) (i := 0) (tX8_go.at 61 rfl) rfl rfl ?_
            refine r_iload (pc := 113) (i := 6) (tX8_go.at 62 rfl) rfl ?_
            refine r_put (pc := 115) (tX8_go.at 63 rfl) pf_X8_23 (hp_eq _ _ _) (Nat.le_of_ble_eq_true rfl) (rfl) (rfl) ?_
            have nx2 := nx (some (.int (nI to))) (by omega)
            rw [if_pos ⟨c, by cases q : G.a.testBit to <;> simp_all⟩] at nx2
            refine r_eq (h2 := hp h q (stE dr2 to (sn ||| 2 ^ to) (ct + T (pl * 6 + to)) ((k + 1 : Nat) : Int))) (by rw [hp_hp]; unfold stE; rw [zI_nat]; rfl) rfl ?_
            first | refine r_iincN (pc := 118) (tX8_go.at 64 rfl) rfl (by decide) ?_ | refine r_iinc (pc := 118) (tX8_go.at 64 rfl) rfl rfl (by decide) ?_
            refine r_goto (pc := 121) 44 (tX8_go.at 65 rfl) (by decide) ?_
            exact nx2
    exact key n 0 _ (by omega)
  refine r_aload_n (pc := 24) (i := 0) (tX8_go.at 15 rfl) rfl rfl ?_
  refine r_aload_n (pc := 25) (i := 1) (tX8_go.at 16 rfl) rfl rfl ?_
  refine r_iload_n (pc := 26) (i := 3) (tX8_go.at 17 rfl) rfl rfl ?_
  refine r_callV (M' := mX3_isAbsorbing) (pc := 27) (tX8_go.at 18 rfl) ml_X8_26 rfl mw_X3_isAbsorbing ⟨by decide, by decide⟩ ((gG _).1) rfl rfl (c_isAbs (gG _) ha (y := x) (by omega)) rfl rfl (Nat.le_of_ble_eq_true rfl) (Nat.le_of_ble_eq_true rfl) (Nat.le_of_ble_eq_true rfl) ?_
  rintro _ _ _ ⟨rfl, rfl, rfl⟩
  refine r_if_eqN (pc := 30) 37 (tX8_go.at 19 rfl) (by decide) (by omega) (fun c => ?_) (fun c => ?_)
  · refine r_iconst (pc := 37) (w := zI (-1)) (tX8_go.at 22 rfl) (by decide) ?_
    exact fin (-1) (by rw [if_neg (by intro z; rw [z] at c; cases c)])
  · refine r_iconst (pc := 33) (w := nI 0) (tX8_go.at 20 rfl) (by decide) ?_
    refine r_goto (pc := 34) 38 (tX8_go.at 21 rfl) (by decide) ?_
    exact fin 0 (by rw [if_pos (by cases q : G.a.testBit x <;> simp_all)])
/-- what is told of a walk -/
def tdV (s : WK) (w : Nat) : Int := if w = 0 then (s.1.2 : Nat) else if w = 1 then (s.2.1.1 : Nat) else if w = 2 then (s.2.1.2 : Nat) else s.2.2
theorem c_told {v : Ev} {h : Hp} {top q w : Nat} {s : WK} (hq : h q = some (stK s)) (hw : w ≤ 3) : Cal v mX8_told 1 0 0 [.ref q, .int (nI w)] h top (pR (.int (zI (tdV s w))) h top) noX := by
  refine Cal.ofJ (by decide +kernel) rfl (Nat.le_of_ble_eq_true rfl) fun hz0 => ?_
  refine r_ls [some (.ref q), some (.int (nI w))] rfl ?_
  refine r_iload_n (pc := 0) (i := 1) (tX8_told.at 0 rfl) rfl rfl ?_
  rcases (show w = 0 ∨ w = 1 ∨ w = 2 ∨ w = 3 by omega) with rfl | rfl | rfl | rfl
  · refine r_swIn (pc := 1) (off := 27) 28 (tX8_told.at 1 rfl) (by decide) (by decide) (by decide) (by decide) ?_
    refine r_aload_n (pc := 28) (i := 0) (tX8_told.at 2 rfl) rfl rfl ?_
    refine r_get (pc := 29) (tX8_told.at 3 rfl) gf_X8_13 (hq) rfl ?_
    refine r_iret (pc := 32) (tX8_told.at 4 rfl) rfl (Nat.le_of_ble_eq_true rfl) (Nat.le_of_ble_eq_true rfl) ?_
    exact ⟨by rw [tdV, if_pos rfl, zI_nat], rfl, rfl⟩
  · refine r_swIn (pc := 1) (off := 32) 33 (tX8_told.at 1 rfl) (by decide) (by decide) (by decide) (by decide) ?_
    refine r_aload_n (pc := 33) (i := 0) (tX8_told.at 5 rfl) rfl rfl ?_
    refine r_get (pc := 34) (tX8_told.at 6 rfl) gf_X8_17 (hq) rfl ?_
    refine r_iret (pc := 37) (tX8_told.at 7 rfl) rfl (Nat.le_of_ble_eq_true rfl) (Nat.le_of_ble_eq_true rfl) ?_
    exact ⟨by rw [tdV, if_neg (by omega), if_pos rfl, zI_nat], rfl, rfl⟩
  · refine r_swIn (pc := 1) (off := 37) 38 (tX8_told.at 1 rfl) (by decide) (by decide) (by decide) (by decide) ?_
    refine r_aload_n (pc := 38) (i := 0) (tX8_told.at 8 rfl) rfl rfl ?_
    refine r_get (pc := 39) (tX8_told.at 9 rfl) gf_X8_20 (hq) rfl ?_
    refine r_iret (pc := 42) (tX8_told.at 10 rfl) rfl (Nat.le_of_ble_eq_true rfl) (Nat.le_of_ble_eq_true rfl) ?_
    exact ⟨by rw [tdV, if_neg (by omega), if_neg (by omega), if_pos rfl, zI_nat], rfl, rfl⟩
  · refine r_swOut (pc := 1) 43 (tX8_told.at 1 rfl) (by decide) (by decide) ?_
    refine r_aload_n (pc := 43) (i := 0) (tX8_told.at 11 rfl) rfl rfl ?_
    refine r_get (pc := 44) (tX8_told.at 12 rfl) gf_X8_23 (hq) rfl ?_
    refine r_iret (pc := 47) (tX8_told.at 13 rfl) rfl (Nat.le_of_ble_eq_true rfl) (Nat.le_of_ble_eq_true rfl) ?_
    exact ⟨by rw [tdV, if_neg (by omega), if_neg (by omega), if_neg (by omega)], rfl, rfl⟩
theorem c_stInit {v : Ev} {h : Hp} {top q : Nat} {e : va_E} (hq : h q = some (ob 8 [.long 0, .int 0, .int 0, .int 0, .int 0])) : Cal v mX8_init 1 0 0 [.ref q] h top (pV (hp h q (stE 0 0 0 0 (-1))) top) noX := by
  refine Cal.ofJ (by decide +kernel) rfl (Nat.le_of_ble_eq_true rfl) fun hz0 => ?_
  refine r_ls [some (.ref q)] rfl ?_
  refine r_aload_n (pc := 0) (i := 0) (tX8_init.at 0 rfl) rfl rfl ?_
  refine r_objInit (pc := 1) (tX8_init.at 1 rfl) ml_X8_1 oi_inst oi_code (Nat.le_of_ble_eq_true rfl) (Nat.le_of_ble_eq_true rfl) ?_
  refine r_aload_n (pc := 4) (i := 0) (tX8_init.at 2 rfl) rfl rfl ?_
  refine r_lconst (pc := 5) (w := lI 0) (tX8_init.at 3 rfl) (by decide) ?_
  refine r_put (pc := 6) (tX8_init.at 4 rfl) pf_X8_7 (hq) (Nat.le_of_ble_eq_true rfl) (rfl) (rfl) ?_
  refine r_aload_n (pc := 9) (i := 0) (tX8_init.at 5 rfl) rfl rfl ?_
  refine r_iconst (pc := 10) (w := nI 0) (tX8_init.at 6 rfl) (by decide) ?_
  refine r_put (pc := 11) (tX8_init.at 7 rfl) pf_X8_13 (hp_eq _ _ _) (Nat.le_of_ble_eq_true rfl) (rfl) (rfl) ?_
  refine r_aload_n (pc := 14) (i := 0) (tX8_init.at 8 rfl) rfl rfl ?_
  refine r_iconst (pc := 15) (w := nI 0) (tX8_init.at 9 rfl) (by decide) ?_
  refine r_put (pc := 16) (tX8_init.at 10 rfl) pf_X8_17 (hp_eq _ _ _) (Nat.le_of_ble_eq_true rfl) (rfl) (rfl) ?_
  refine r_aload_n (pc := 19) (i := 0) (tX8_init.at 11 rfl) rfl rfl ?_
  refine r_iconst (pc := 20) (w := nI 0) (tX8_init.at 12 rfl) (by decide) ?_
  refine r_put (pc := 21) (tX8_init.at 13 rfl) pf_X8_20 (hp_eq _ _ _) (Nat.le_of_ble_eq_true rfl) (rfl) (rfl) ?_
  refine r_aload_n (pc := 24) (i := 0) (tX8_init.at 14 rfl) rfl rfl ?_
  refine r_iconst (pc := 25) (w := zI (-1)) (tX8_init.at 15 rfl) (by decide) ?_
  refine r_put (pc := 26) (tX8_init.at 16 rfl) pf_X8_23 (hp_eq _ _ _) (Nat.le_of_ble_eq_true rfl) (rfl) (rfl) ?_
  rw [hp_hp, hp_hp, hp_hp, hp_hp]
  refine r_vret (pc := 29) (tX8_init.at 17 rfl) rfl (Nat.le_of_ble_eq_true rfl) (Nat.le_of_ble_eq_true rfl) ?_
  exact ⟨rfl, rfl, rfl⟩
theorem c_ptInit {v : Ev} {h : Hp} {q : Nat} (hq : h q = some (ob 5 [.null, .null, .null])) : Cal v mX5_init 2 8 100 [.ref q] h (q + 1) (pT (pH v h q (G0 v) (fun _ => 0) (fun _ => 0)) (q + 9)) noX := by
  refine Cal.ofJ (by decide +kernel) rfl (Nat.le_of_ble_eq_true rfl) fun hz0 => ?_
  refine r_ls [some (.ref q)] rfl ?_
  refine r_aload_n (pc := 0) (i := 0) (tX5_init.at 0 rfl) rfl rfl ?_
  refine r_objInit (pc := 1) (tX5_init.at 1 rfl) ml_X5_3 oi_inst oi_code (Nat.le_of_ble_eq_true rfl) (Nat.le_of_ble_eq_true rfl) ?_
  refine r_aload_n (pc := 4) (i := 0) (tX5_init.at 2 rfl) rfl rfl ?_
  refine r_new (pc := 5) (tX5_init.at 3 rfl) nw_X5_9 (Nat.le_of_ble_eq_true rfl) (Nat.le_of_ble_eq_true rfl) (fun _ => ?_)
  refine r_dup (pc := 8) (tX5_init.at 4 rfl) rfl ?_
  refine r_callI (M' := mX3_init) (pc := 9) (tX5_init.at 5 rfl) (Or.inr ⟨_, mn_X5_11⟩) rfl rfl mw_X3_init ⟨by decide, by decide⟩ (c_gInit (g := q + 1) (hp_eq _ _ _)) rfl rfl (Nat.le_of_ble_eq_true rfl) (Nat.le_of_ble_eq_true rfl) (Nat.le_of_ble_eq_true rfl) ?_
  rintro _ _ _ ⟨rfl, rfl, rfl⟩
  have h0 : gH v (hp h (q + 1) (ob 3 gNew)) (q + 1) (G0 v) q = some (ob 5 [.null, .null, .null]) := (gH_out _ _ _ _ (by omega)).trans ((hp_ne _ _ (by omega)).trans hq)
  refine r_putF (pc := 12) (tX5_init.at 6 rfl) pff_X5_12 rfl (h0) (Nat.le_of_ble_eq_true rfl) rfl rfl ?_
  refine r_aload_n (pc := 15) (i := 0) (tX5_init.at 7 rfl) rfl rfl ?_
  refine r_bipush (pc := 16) (w := nI 6) (tX5_init.at 8 rfl) (by decide) ?_
  refine r_newaJ (pc := 18) (6) (tX5_init.at 9 rfl) (rfl) (Nat.le_of_ble_eq_true rfl) ac_long (Nat.le_of_ble_eq_true rfl) (Nat.le_of_ble_eq_true rfl) (fun fr18 => ?_)
  refine r_putF (pc := 20) (tX5_init.at 10 rfl) pff_X5_18 rfl ((hp_ne _ _ (by omega)).trans (hp_eq _ _ _)) (Nat.le_of_ble_eq_true rfl) rfl rfl ?_
  refine r_aload_n (pc := 23) (i := 0) (tX5_init.at 11 rfl) rfl rfl ?_
  refine r_bipush (pc := 24) (w := nI 6) (tX5_init.at 12 rfl) (by decide) ?_
  refine r_newaI (pc := 26) (6) (tX5_init.at 13 rfl) (rfl) (Nat.le_of_ble_eq_true rfl) ac_int (Nat.le_of_ble_eq_true rfl) (Nat.le_of_ble_eq_true rfl) (fun fr26 => ?_)
  refine r_putF (pc := 28) (tX5_init.at 14 rfl) pff_X5_22 rfl ((hp_ne _ _ (by omega)).trans (hp_eq _ _ _)) (Nat.le_of_ble_eq_true rfl) rfl rfl ?_
  refine r_vret (pc := 31) (tX5_init.at 15 rfl) rfl (Nat.le_of_ble_eq_true rfl) (Nat.le_of_ble_eq_true rfl) ?_
  refine ⟨rfl, (pH_ext ?_ ?_ ?_ ?_ ?_).symm, rfl⟩
  · simp [hp]
    rfl
  · refine (((((gH_is v _ (q + 1) (G0 v)).put (by omega)).put (by omega)).put (by omega)).put (by omega)).put (by omega)
  · simp [hp]
    rfl
  · simp [hp]
    rfl
  · intro a ha
    rw [hp_ne _ _ (by omega), hp_ne _ _ (by omega), hp_ne _ _ (by omega), hp_ne _ _ (by omega), hp_ne _ _ (by omega), gH_out _ _ _ _ (by omega), hp_ne _ _ (by omega)]
theorem c_spInit {v : Ev} {h : Hp} {q : Nat} (hq : h q = some (ob 7 [.null, .null, .null, .null])) : Cal v mX7_init 2 4 50 [.ref q] h (q + 1) (pT (spH v h q (fun _ => 0) (fun _ => 0) (fun _ => 0) 0 1) (q + 5)) noX := by
  refine Cal.ofJ (by decide +kernel) rfl (Nat.le_of_ble_eq_true rfl) fun hz0 => ?_
  refine r_ls [some (.ref q)] rfl ?_
  refine r_aload_n (pc := 0) (i := 0) (tX7_init.at 0 rfl) rfl rfl ?_
  refine r_objInit (pc := 1) (tX7_init.at 1 rfl) ml_X7_3 oi_inst oi_code (Nat.le_of_ble_eq_true rfl) (Nat.le_of_ble_eq_true rfl) ?_
  refine r_aload_n (pc := 4) (i := 0) (tX7_init.at 2 rfl) rfl rfl ?_
  refine r_bipush (pc := 5) (w := nI 36) (tX7_init.at 3 rfl) (by decide) ?_
  refine r_newaF (pc := 7) (36) (tX7_init.at 4 rfl) (rfl) (Nat.le_of_ble_eq_true rfl) ac_float (Nat.le_of_ble_eq_true rfl) (Nat.le_of_ble_eq_true rfl) (fun fr7 => ?_)
  refine r_putF (pc := 9) (tX7_init.at 5 rfl) pff_X7_9 rfl ((hp_ne _ _ (by omega)).trans hq) (Nat.le_of_ble_eq_true rfl) rfl rfl ?_
  refine r_aload_n (pc := 12) (i := 0) (tX7_init.at 6 rfl) rfl rfl ?_
  refine r_bipush (pc := 13) (w := nI 6) (tX7_init.at 7 rfl) (by decide) ?_
  refine r_newaF (pc := 15) (6) (tX7_init.at 8 rfl) (rfl) (Nat.le_of_ble_eq_true rfl) ac_float (Nat.le_of_ble_eq_true rfl) (Nat.le_of_ble_eq_true rfl) (fun fr15 => ?_)
  refine r_putF (pc := 17) (tX7_init.at 9 rfl) pff_X7_15 rfl ((hp_ne _ _ (by omega)).trans (hp_eq _ _ _)) (Nat.le_of_ble_eq_true rfl) rfl rfl ?_
  refine r_aload_n (pc := 20) (i := 0) (tX7_init.at 10 rfl) rfl rfl ?_
  refine r_bipush (pc := 21) (w := nI 6) (tX7_init.at 11 rfl) (by decide) ?_
  refine r_newaF (pc := 23) (6) (tX7_init.at 12 rfl) (rfl) (Nat.le_of_ble_eq_true rfl) ac_float (Nat.le_of_ble_eq_true rfl) (Nat.le_of_ble_eq_true rfl) (fun fr23 => ?_)
  refine r_putF (pc := 25) (tX7_init.at 13 rfl) pff_X7_18 rfl ((hp_ne _ _ (by omega)).trans (hp_eq _ _ _)) (Nat.le_of_ble_eq_true rfl) rfl rfl ?_
  refine r_aload_n (pc := 28) (i := 0) (tX7_init.at 14 rfl) rfl rfl ?_
  refine r_new (pc := 29) (tX7_init.at 15 rfl) nw_X7_21 (Nat.le_of_ble_eq_true rfl) (Nat.le_of_ble_eq_true rfl) (fun _ => ?_)
  refine r_dup (pc := 32) (tX7_init.at 16 rfl) rfl ?_
  refine r_callI (M' := mX2_init) (pc := 33) (tX7_init.at 17 rfl) (Or.inr ⟨_, mn_X7_23⟩) rfl rfl mw_X2_init ⟨by decide, by decide⟩ (c_frInit (hp_eq _ _ _) rfl) rfl rfl (Nat.le_of_ble_eq_true rfl) (Nat.le_of_ble_eq_true rfl) (Nat.le_of_ble_eq_true rfl) ?_
  rintro _ _ _ ⟨rfl, rfl, rfl⟩
  refine r_putF (pc := 36) (tX7_init.at 18 rfl) pff_X7_24 rfl ((hp_ne _ _ (by omega)).trans ((hp_ne _ _ (by omega)).trans (hp_eq _ _ _))) (Nat.le_of_ble_eq_true rfl) rfl rfl ?_
  refine r_vret (pc := 39) (tX7_init.at 19 rfl) rfl (Nat.le_of_ble_eq_true rfl) (Nat.le_of_ble_eq_true rfl) ?_
  refine ⟨rfl, (spH_ext ?_ ?_ ?_ ?_ ?_ ?_).symm, rfl⟩
  · simp [hp]
    rfl
  · simp [hp]
  · simp [hp]
  · simp [hp]
  · simp [hp]
  · intro a ha
    simp [hp, show a ≠ q by omega, show a ≠ q + 1 by omega, show a ≠ q + 1 + 1 by omega, show a ≠ q + 1 + 1 + 1 by omega, show a ≠ q + 1 + 1 + 1 + 1 by omega]

