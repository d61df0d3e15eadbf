/-! ===== the reference: meanTo ===== -/
theorem riB_in {W : Nat → Nat} {a S x : Nat} (h : S.testBit x = true) : ∀ b, (riB W a S b).testBit x = true
  | 0 => h
  | b + 1 => by
    have ih := riB_in (W := W) (a := a) h b
    rw [riB]
    split
    · rw [Nat.testBit_or, ih]
      rfl
    · exact ih
theorem riA_in {W : Nat → Nat} {n S x : Nat} (h : S.testBit x = true) : ∀ a, (riA W n S a).testBit x = true
  | 0 => h
  | a + 1 => riB_in (riA_in h a) n
theorem riR_in {W : Nat → Nat} {n x : Nat} : ∀ r, (riR W n x r).testBit x = true
  | 0 => by
    show (2 ^ x).testBit x = true
    exact Nat.testBit_two_pow_self
  | r + 1 => riA_in (riR_in r) n
theorem rcm_self {W : Nat → Nat} {n x : Nat} : (rcm W n x).testBit x = true := riR_in 6
def gnS (p : Nat) (W T : Nat → Nat) (k u : Nat) : Int := if p = 0 then (degN W k u : Nat) else csS W T k u
theorem gnS_s0 {W T : Nat → Nat} {k u : Nat} : gnS 0 W T k (u + 1) = gnS 0 W T k u + (W (k * 6 + u) : Nat) := by
  unfold gnS
  rw [if_pos rfl, if_pos rfl]
  show ((degN W k u + W (k * 6 + u) : Nat) : Int) = _
  omega
theorem gnS_s1 {p : Nat} {W T : Nat → Nat} {k u : Nat} (h : p ≠ 0) : gnS p W T k (u + 1) = gnS p W T k u + (W (k * 6 + u) : Nat) * (T (k * 6 + u) : Nat) := by
  unfold gnS
  rw [if_neg h, if_neg h]
  rfl
theorem mtS.cong {S : MS} {W : Nat → Nat} {n : Nat} {p : Nat → Bool} {g g2 : Nat → Int} (k : mtS S W n p g) (h : ∀ x, x < n → g x = g2 x) : mtS S W n p g2 := ⟨k.1, k.2.1, k.2.2.1, fun x hx px => (k.2.2.2 x hx px).trans (h x hx)⟩
/-- the unknown ones of a mean to a set -/
def mnL (W : Nat → Nat) (n T x : Nat) : List Nat := ascL (unP (rcm W n x) T) n
def mnR (W : Nat → Nat) (n T x : Nat) : Nat := (ascL (unP (rcm W n x) T) x).length
def mnN (W : Nat → Nat) (n T x : Nat) (g : Nat → Int) : Int := dtS (mnL W n T x).length (mnL W n T x).length 0 (rMt W n (mnL W n T x) g (mnR W n T x : Nat)) 1 1
def mnD (W : Nat → Nat) (n T x : Nat) (g : Nat → Int) : Int := dtS (mnL W n T x).length (mnL W n T x).length 0 (rMt W n (mnL W n T x) g (-1)) 1 1
def inF (z : Int) : Prop := -9223372036854775807 ≤ z ∧ z ≤ 9223372036854775807
def okMn (W : Nat → Nat) (n T x : Nat) (g : Nat → Int) : Prop := T.testBit x = false → (okDt (mnL W n T x).length (mnL W n T x).length 0 (rMt W n (mnL W n T x) g (mnR W n T x : Nat)) 1 ∧ inF (mnN W n T x g)) ∧ (okDt (mnL W n T x).length (mnL W n T x).length 0 (rMt W n (mnL W n T x) g (-1)) 1 ∧ inF (mnD W n T x g))
def mqN (W : Nat → Nat) (n T x : Nat) (g : Nat → Int) : Int := if T.testBit x = true then 0 else mnN W n T x g
def mqD (W : Nat → Nat) (n T x : Nat) (g : Nat → Int) : Int := if T.testBit x = true then 1 else mnD W n T x g
theorem unP_self {W : Nat → Nat} {n T x : Nat} (h : T.testBit x = false) : unP (rcm W n x) T x = true := by
  unfold unP
  rw [rcm_self, h]
  rfl
section
variable {v : Ev} {h : Hp} {top m : Nat} {S : MS} {G : GT} {cn : Nat} {cc : Nat → Int}
def pFr (v : Ev) (h : Hp) (m : Nat) (S : MS) (top : Nat) (n d : Int) : Option Value → Hp → Nat → Prop := fun r h' top' => r = none ∧ top = top' ∧ ∃ S', h' = mH v h m S' ∧ pel S S' ∧ S'.abv = frA n d ∧ S'.blw = frB n d
/-- solving for the gains that stand -/
theorem c_mSol2 {x T : Nat} {g : Nat → Int} (ms : mtS S G.W G.n (unP (rcm G.W G.n x) T) g) (hn : G.n ≤ 6) (hx : x < G.n) (hT : T.testBit x = false) (ok : okMn G.W G.n T x g) : Cal v mX11_solves 3 0 0 [.ref m, .int (nI x)] (mH v h m S) top (pFr v h m S top (mnN G.W G.n T x g) (mnD G.W G.n T x g)) noX := by
  obtain ⟨⟨o1, o2⟩, o3, o4⟩ := ok hT
  refine (c_mSol (v := v) (h := h) (top := top) ms hn hx (unP_self hT) o1 rfl o2 o3 rfl o4).mono (fun r h' top' => ?_)
  rintro ⟨rfl, rfl, q, rfl⟩
  exact ⟨rfl, rfl, _, rfl, ⟨⟨⟨rfl, rfl, rfl, rfl⟩, rfl, rfl⟩, rfl, rfl, rfl, rfl⟩, rfl, rfl⟩
theorem c_mMean {x T p : Nat} {g0 : Nat → Int} (hg : rwG S G) (hl : lad S G cn cc) (hn : G.n ≤ 6) (hW : ∀ k, k < 36 → G.W k ≤ 9) (hx : x < G.n) (hT : T < 64) (hp : p ≤ 1) (hg0 : ∀ k, k < G.n → g0 k = gnS p G.W (tbl G cn cc) k G.n) (ok : okMn G.W G.n T x g0) : Cal v mX11_meanTo 4 0 0 [.ref m, .int (nI x), .int (nI T), .int (nI p)] (mH v h m S) top (pFr v h m S top (mqN G.W G.n T x g0) (mqD G.W G.n T x g0)) noX := by
  have hR := rcm_lt (W := G.W) (show x < 6 by omega) hn
  refine Cal.ofJ (by decide +kernel) rfl (Nat.le_of_ble_eq_true rfl) fun hz0 => ?_
  refine r_ls [some (.ref m), some (.int (nI x)), some (.int (nI T)), some (.int (nI p)), none, none, none, none] rfl ?_
  generalize hPo : pFr v h m S top (mqN G.W G.n T x g0) (mqD G.W G.n T x g0) = Po
  have hb : Bool.toNat (T.testBit x) ≤ 1 := Bool.toNat_le _
  refine r_iload_n (pc := 0) (i := 2) (tX11_meanTo.at 0 rfl) rfl rfl ?_
  refine r_iload_n (pc := 1) (i := 1) (tX11_meanTo.at 1 rfl) rfl rfl ?_
  refine r_callS (M' := mX11_has) (pc := 2) (tX11_meanTo.at 2 rfl) ml_X11_221 rfl mw_X11_has ⟨by decide, by decide⟩ (c_mHas hT (show x < 8 by omega)) rfl rfl (Nat.le_of_ble_eq_true rfl) (Nat.le_of_ble_eq_true rfl) (Nat.le_of_ble_eq_true rfl) ?_
  rintro _ _ _ ⟨rfl, rfl, rfl⟩
  refine r_if_eqN (pc := 5) 15 (tX11_meanTo.at 3 rfl) (by decide) (by omega) (fun c => ?_) (fun c => ?_)
  · have c := tbF c
    refine r_aload_n (pc := 15) (i := 0) (tX11_meanTo.at 9 rfl) rfl rfl ?_
    refine r_aload_n (pc := 16) (i := 0) (tX11_meanTo.at 10 rfl) rfl rfl ?_
    refine r_iload_n (pc := 17) (i := 1) (tX11_meanTo.at 11 rfl) rfl rfl ?_
    refine r_callV (M' := mX11_reachedFrom) (pc := 18) (tX11_meanTo.at 12 rfl) ml_X11_249 rfl mw_X11_reachedFrom ⟨by decide, by decide⟩ (mH_0) rfl rfl (c_mReach hg hl hn (by omega) hW) rfl rfl (Nat.le_of_ble_eq_true rfl) (Nat.le_of_ble_eq_true rfl) (Nat.le_of_ble_eq_true rfl) ?_
    rintro _ _ _ ⟨rfl, rfl, rfl⟩
    refine r_iload_n (pc := 21) (i := 2) (tX11_meanTo.at 13 rfl) rfl rfl ?_
    refine r_callV (M' := mX11_begins) (pc := 22) (tX11_meanTo.at 14 rfl) ml_X11_252 rfl mw_X11_begins ⟨by decide, by decide⟩ (mH_0) rfl rfl ((c_mBegins hg hl hn hR hT hW)) rfl rfl (Nat.le_of_ble_eq_true rfl) (Nat.le_of_ble_eq_true rfl) (Nat.le_of_ble_eq_true rfl) ?_
    rintro _ _ _ ⟨rfl, rfl, S1, rfl, p1, ms⟩
    have hg1 := p1.1.rwG hg
    have hl1 := p1.ld hl
    refine r_iconst (pc := 25) (w := nI 0) (tX11_meanTo.at 15 rfl) (by decide) ?_
    refine r_istore (pc := 26) (i := 4) (tX11_meanTo.at 16 rfl) (by decide) ?_
    have key : ∀ k u M (g : Nat → Int) o5 o7, u + k = G.n → (∀ y, y < u → g y = gnS p G.W (tbl G cn cc) y G.n) → mtS (S1.s_mtx M) G.W G.n (unP (rcm G.W G.n x) T) g → J v mX11_meanTo (rmOf 4 0 0) (KM v Po noX 0 0) top 0 0 (mH v h m (S1.s_mtx M)) top 28 [some (.ref m), some (.int (nI x)), some (.int (nI T)), some (.int (nI p)), some (.int (nI u)), o5, none, o7] [] := by
      intro k
      induction k with
      | zero =>
        intro u M g o5 o7 hu hgu ms
        have hu : u = G.n := by omega
        subst hu
        refine r_iload (pc := 28) (i := 4) (tX11_meanTo.at 17 rfl) rfl ?_
        refine r_aload_n (pc := 30) (i := 0) (tX11_meanTo.at 18 rfl) rfl rfl ?_
        refine r_callV (M' := mX11_count) (pc := 31) (tX11_meanTo.at 19 rfl) ml_X11_218 rfl mw_X11_count ⟨by decide, by decide⟩ (mH_0) rfl rfl (c_mCount (S := S1.s_mtx M) hg1.1) rfl rfl (Nat.le_of_ble_eq_true rfl) (Nat.le_of_ble_eq_true rfl) (Nat.le_of_ble_eq_true rfl) ?_
        rintro _ _ _ ⟨rfl, rfl, rfl⟩
        rw [show (S1.s_mtx M).rw 0 = G.n from hg1.2.1]
        refine r_icmp_geN (pc := 34) 127 (tX11_meanTo.at 20 rfl) (by decide) (by omega) (by omega) (fun _ => ?_) (fun c => by omega)
        refine r_aload_n (pc := 127) (i := 0) (tX11_meanTo.at 71 rfl) rfl rfl ?_
        refine r_iload_n (pc := 128) (i := 1) (tX11_meanTo.at 72 rfl) rfl rfl ?_
        refine r_callV (M' := mX11_solves) (pc := 129) (tX11_meanTo.at 73 rfl) ml_X11_259 rfl mw_X11_solves ⟨by decide, by decide⟩ (mH_0) rfl rfl ((c_mSol2 (ms.cong (g2 := g0) (fun y hy => (hgu y hy).trans (hg0 y hy).symm)) hn hx c ok)) rfl rfl (Nat.le_of_ble_eq_true rfl) (Nat.le_of_ble_eq_true rfl) (Nat.le_of_ble_eq_true rfl) ?_
        rintro _ _ _ ⟨rfl, rfl, S2, rfl, p2, a2, b2⟩
        refine r_vret (pc := 132) (tX11_meanTo.at 74 rfl) rfl (Nat.le_of_ble_eq_true rfl) (Nat.le_of_ble_eq_true rfl) ?_
        subst hPo
        have p12 : pel S1 (S1.s_mtx M) := ⟨⟨⟨rfl, rfl, rfl, rfl⟩, rfl, rfl⟩, rfl, rfl, rfl, rfl⟩
        exact ⟨rfl, rfl, S2, rfl, p1.trans (p12.trans p2), by rw [mqN, mqD, if_neg (by rw [c]; simp), if_neg (by rw [c]; simp)]; exact a2, by rw [mqN, mqD, if_neg (by rw [c]; simp), if_neg (by rw [c]; simp)]; exact b2⟩
      | succ k ih =>
        intro u M g o5 o7 hu hgu ms
        refine r_iload (pc := 28) (i := 4) (tX11_meanTo.at 17 rfl) rfl ?_
        refine r_aload_n (pc := 30) (i := 0) (tX11_meanTo.at 18 rfl) rfl rfl ?_
        refine r_callV (M' := mX11_count) (pc := 31) (tX11_meanTo.at 19 rfl) ml_X11_218 rfl mw_X11_count ⟨by decide, by decide⟩ (mH_0) rfl rfl (c_mCount (S := S1.s_mtx M) hg1.1) rfl rfl (Nat.le_of_ble_eq_true rfl) (Nat.le_of_ble_eq_true rfl) (Nat.le_of_ble_eq_true rfl) ?_
        rintro _ _ _ ⟨rfl, rfl, rfl⟩
        rw [show (S1.s_mtx M).rw 0 = G.n from hg1.2.1]
        refine r_icmp_geN (pc := 34) 127 (tX11_meanTo.at 20 rfl) (by decide) (by omega) (by omega) (fun c => by omega) (fun _ => ?_)
        refine r_lconst (pc := 37) (w := lI 0) (tX11_meanTo.at 21 rfl) (by decide) ?_
        refine r_lstore (pc := 38) (i := 5) (tX11_meanTo.at 22 rfl) (by decide) ?_
        refine r_iconst (pc := 40) (w := nI 0) (tX11_meanTo.at 23 rfl) (by decide) ?_
        refine r_istore (pc := 41) (i := 7) (tX11_meanTo.at 24 rfl) (by decide) ?_
        have inner : ∀ k w, w + k = G.n → J v mX11_meanTo (rmOf 4 0 0) (KM v Po noX 0 0) top 0 0 (mH v h m (S1.s_mtx M)) top 43 [some (.ref m), some (.int (nI x)), some (.int (nI T)), some (.int (nI p)), some (.int (nI u)), some (.long (lI (gnS p G.W (tbl G cn cc) u w))), none, some (.int (nI w))] [] := by
          intro k
          induction k with
          | zero =>
            intro w hw
            have hw : w = G.n := by omega
            subst hw
            refine r_iload (pc := 43) (i := 7) (tX11_meanTo.at 25 rfl) rfl ?_
            refine r_aload_n (pc := 45) (i := 0) (tX11_meanTo.at 26 rfl) rfl rfl ?_
            refine r_callV (M' := mX11_count) (pc := 46) (tX11_meanTo.at 27 rfl) ml_X11_218 rfl mw_X11_count ⟨by decide, by decide⟩ (mH_0) rfl rfl (c_mCount (S := S1.s_mtx M) hg1.1) rfl rfl (Nat.le_of_ble_eq_true rfl) (Nat.le_of_ble_eq_true rfl) (Nat.le_of_ble_eq_true rfl) ?_
            rintro _ _ _ ⟨rfl, rfl, rfl⟩
            rw [show (S1.s_mtx M).rw 0 = G.n from hg1.2.1]
            refine r_icmp_geN (pc := 49) 113 (tX11_meanTo.at 28 rfl) (by decide) (by omega) (by omega) (fun _ => ?_) (fun c => by omega)
            refine r_aload_n (pc := 113) (i := 0) (tX11_meanTo.at 65 rfl) rfl rfl ?_
            refine r_iload (pc := 114) (i := 4) (tX11_meanTo.at 66 rfl) rfl ?_
            refine r_lload (pc := 116) (i := 5) (tX11_meanTo.at 67 rfl) rfl ?_
            refine r_callV (M' := mX11_further) (pc := 118) (tX11_meanTo.at 68 rfl) ml_X11_255 rfl mw_X11_further ⟨by decide, by decide⟩ (mH_0) rfl rfl ((c_mFur (w := gnS p G.W (tbl G cn cc) u G.n) ms hn (by omega))) rfl rfl (Nat.le_of_ble_eq_true rfl) (Nat.le_of_ble_eq_true rfl) (Nat.le_of_ble_eq_true rfl) ?_
            rintro _ _ _ ⟨rfl, rfl, M2, rfl, ms2⟩
            refine r_eq (h2 := mH v h m (S1.s_mtx M2)) rfl rfl ?_
            first | refine r_iincN (pc := 121) (tX11_meanTo.at 69 rfl) rfl (by decide) ?_ | refine r_iinc (pc := 121) (tX11_meanTo.at 69 rfl) rfl rfl (by decide) ?_
            refine r_goto (pc := 124) 28 (tX11_meanTo.at 70 rfl) (by decide) ?_
            refine ih (u + 1) M2 _ _ _ (by omega) (fun y hy => ?_) ms2
            by_cases q : y = u
            · rw [q, upZ_eq]
            · rw [upZ_ne _ _ q]
              exact hgu y (by omega)
          | succ k ih2 =>
            intro w hw
            have hww := hW (u * 6 + w) (by omega)
            have htt := tbl_le G cn cc (u * 6 + w) (by omega)
            obtain ⟨la, lb⟩ := hl1.1 u w (by omega) (by omega)
            have nx := ih2 (w + 1) (by omega)
            refine r_iload (pc := 43) (i := 7) (tX11_meanTo.at 25 rfl) rfl ?_
            refine r_aload_n (pc := 45) (i := 0) (tX11_meanTo.at 26 rfl) rfl rfl ?_
            refine r_callV (M' := mX11_count) (pc := 46) (tX11_meanTo.at 27 rfl) ml_X11_218 rfl mw_X11_count ⟨by decide, by decide⟩ (mH_0) rfl rfl (c_mCount (S := S1.s_mtx M) hg1.1) rfl rfl (Nat.le_of_ble_eq_true rfl) (Nat.le_of_ble_eq_true rfl) (Nat.le_of_ble_eq_true rfl) ?_
            rintro _ _ _ ⟨rfl, rfl, rfl⟩
            rw [show (S1.s_mtx M).rw 0 = G.n from hg1.2.1]
            refine r_icmp_geN (pc := 49) 113 (tX11_meanTo.at 28 rfl) (by decide) (by omega) (by omega) (fun c => by omega) (fun _ => ?_)
            refine r_lload (pc := 52) (i := 5) (tX11_meanTo.at 29 rfl) rfl ?_
            refine r_iload_n (pc := 54) (i := 3) (tX11_meanTo.at 30 rfl) rfl rfl ?_
            refine r_if_eqN (pc := 55) 90 (tX11_meanTo.at 31 rfl) (by decide) (by omega) (fun cp => ?_) (fun cp => ?_)
            · subst cp
              rw [gnS_s0] at nx
              refine r_aload_n (pc := 90) (i := 0) (tX11_meanTo.at 52 rfl) rfl rfl ?_
              refine r_get (pc := 91) (tX11_meanTo.at 53 rfl) gf_X11_23 (mH_0) rfl ?_
              refine r_bipush (pc := 94) (w := nI 6) (tX11_meanTo.at 54 rfl) (by decide) ?_
              refine r_iload (pc := 96) (i := 4) (tX11_meanTo.at 55 rfl) rfl ?_
              first | refine r_imulN (pc := 98) (tX11_meanTo.at 56 rfl) ?_ | refine r_imulZ (pc := 98) (tX11_meanTo.at 56 rfl) ?_ | refine r_imul (pc := 98) (tX11_meanTo.at 56 rfl) ?_
              refine r_iload (pc := 99) (i := 7) (tX11_meanTo.at 57 rfl) rfl ?_
              first | refine r_iaddN (pc := 101) (tX11_meanTo.at 58 rfl) ?_ | refine r_iaddZ (pc := 101) (tX11_meanTo.at 58 rfl) ?_ | refine r_iadd (pc := 101) (tX11_meanTo.at 58 rfl) ?_
              refine r_iald (pc := 102) (tX11_meanTo.at 59 rfl) (mH_wts) (6 * u + w) (rfl) (by omega) (Nat.le_of_ble_eq_true rfl) ?_
              refine r_eq rfl (st2 := [.int (nI (G.W (u * 6 + w))), .long (lI (gnS 0 G.W (tbl G cn cc) u w))]) (by rw [← la]; rfl) ?_
              first | refine r_i2lN (pc := 103) (tX11_meanTo.at 60 rfl) (by omega) ?_ | refine r_i2lZ (pc := 103) (tX11_meanTo.at 60 rfl) ⟨by omega, by omega⟩ ?_ | refine r_i2l (pc := 103) (tX11_meanTo.at 60 rfl) ?_
              first | refine r_laddL (pc := 104) (tX11_meanTo.at 61 rfl) ?_ | refine r_ladd (pc := 104) (tX11_meanTo.at 61 rfl) ?_
              refine r_lstore (pc := 105) (i := 5) (tX11_meanTo.at 62 rfl) (by decide) ?_
              first | refine r_iincN (pc := 107) (tX11_meanTo.at 63 rfl) rfl (by decide) ?_ | refine r_iinc (pc := 107) (tX11_meanTo.at 63 rfl) rfl rfl (by decide) ?_
              refine r_goto (pc := 110) 43 (tX11_meanTo.at 64 rfl) (by decide) ?_
              exact nx
            · rw [gnS_s1 cp] at nx
              refine r_aload_n (pc := 58) (i := 0) (tX11_meanTo.at 32 rfl) rfl rfl ?_
              refine r_get (pc := 59) (tX11_meanTo.at 33 rfl) gf_X11_23 (mH_0) rfl ?_
              refine r_bipush (pc := 62) (w := nI 6) (tX11_meanTo.at 34 rfl) (by decide) ?_
              refine r_iload (pc := 64) (i := 4) (tX11_meanTo.at 35 rfl) rfl ?_
              first | refine r_imulN (pc := 66) (tX11_meanTo.at 36 rfl) ?_ | refine r_imulZ (pc := 66) (tX11_meanTo.at 36 rfl) ?_ | refine r_imul (pc := 66) (tX11_meanTo.at 36 rfl) ?_
              refine r_iload (pc := 67) (i := 7) (tX11_meanTo.at 37 rfl) rfl ?_
              first | refine r_iaddN (pc := 69) (tX11_meanTo.at 38 rfl) ?_ | refine r_iaddZ (pc := 69) (tX11_meanTo.at 38 rfl) ?_ | refine r_iadd (pc := 69) (tX11_meanTo.at 38 rfl) ?_
              refine r_iald (pc := 70) (tX11_meanTo.at 39 rfl) (mH_wts) (6 * u + w) (rfl) (by omega) (Nat.le_of_ble_eq_true rfl) ?_
              refine r_eq rfl (st2 := [.int (nI (G.W (u * 6 + w))), .long (lI (gnS p G.W (tbl G cn cc) u w))]) (by rw [← la]; rfl) ?_
              first | refine r_i2lN (pc := 71) (tX11_meanTo.at 40 rfl) (by omega) ?_ | refine r_i2lZ (pc := 71) (tX11_meanTo.at 40 rfl) ⟨by omega, by omega⟩ ?_ | refine r_i2l (pc := 71) (tX11_meanTo.at 40 rfl) ?_
              refine r_aload_n (pc := 72) (i := 0) (tX11_meanTo.at 41 rfl) rfl rfl ?_
              refine r_get (pc := 73) (tX11_meanTo.at 42 rfl) gf_X11_26 (mH_0) rfl ?_
              refine r_bipush (pc := 76) (w := nI 6) (tX11_meanTo.at 43 rfl) (by decide) ?_
              refine r_iload (pc := 78) (i := 4) (tX11_meanTo.at 44 rfl) rfl ?_
              first | refine r_imulN (pc := 80) (tX11_meanTo.at 45 rfl) ?_ | refine r_imulZ (pc := 80) (tX11_meanTo.at 45 rfl) ?_ | refine r_imul (pc := 80) (tX11_meanTo.at 45 rfl) ?_
              refine r_iload (pc := 81) (i := 7) (tX11_meanTo.at 46 rfl) rfl ?_
              first | refine r_iaddN (pc := 83) (tX11_meanTo.at 47 rfl) ?_ | refine r_iaddZ (pc := 83) (tX11_meanTo.at 47 rfl) ?_ | refine r_iadd (pc := 83) (tX11_meanTo.at 47 rfl) ?_
              refine r_iald (pc := 84) (tX11_meanTo.at 48 rfl) (mH_cst) (6 * u + w) (rfl) (by omega) (Nat.le_of_ble_eq_true rfl) ?_
              refine r_eq rfl (st2 := [.int (nI (tbl G cn cc (u * 6 + w))), .long (lI (G.W (u * 6 + w) : Nat)), .long (lI (gnS p G.W (tbl G cn cc) u w))]) (by rw [← lb]; rfl) ?_
              first | refine r_i2lN (pc := 85) (tX11_meanTo.at 49 rfl) (by omega) ?_ | refine r_i2lZ (pc := 85) (tX11_meanTo.at 49 rfl) ⟨by omega, by omega⟩ ?_ | refine r_i2l (pc := 85) (tX11_meanTo.at 49 rfl) ?_
              first | refine r_lmulL (pc := 86) (tX11_meanTo.at 50 rfl) ?_ | refine r_lmul (pc := 86) (tX11_meanTo.at 50 rfl) ?_
              refine r_goto (pc := 87) 104 (tX11_meanTo.at 51 rfl) (by decide) ?_
              first | refine r_laddL (pc := 104) (tX11_meanTo.at 61 rfl) ?_ | refine r_ladd (pc := 104) (tX11_meanTo.at 61 rfl) ?_
              refine r_lstore (pc := 105) (i := 5) (tX11_meanTo.at 62 rfl) (by decide) ?_
              first | refine r_iincN (pc := 107) (tX11_meanTo.at 63 rfl) rfl (by decide) ?_ | refine r_iinc (pc := 107) (tX11_meanTo.at 63 rfl) rfl rfl (by decide) ?_
              refine r_goto (pc := 110) 43 (tX11_meanTo.at 64 rfl) (by decide) ?_
              exact nx
        refine r_eq rfl rfl (r_ls _ ?_ (inner G.n 0 (by omega)))
        rw [show gnS p G.W (tbl G cn cc) u 0 = 0 by unfold gnS; split <;> rfl]
        rfl
    refine r_eq (h2 := mH v h m (S1.s_mtx S1.mtx)) rfl rfl ?_
    exact key G.n 0 S1.mtx (fun _ => 0) _ _ (by omega) (fun y hy => by omega) ms
  · have c := tbT (b := T.testBit x) (by omega)
    refine r_aload_n (pc := 8) (i := 0) (tX11_meanTo.at 4 rfl) rfl rfl ?_
    refine r_lconst (pc := 9) (w := lI 0) (tX11_meanTo.at 5 rfl) (by decide) ?_
    refine r_lconst (pc := 10) (w := lI 1) (tX11_meanTo.at 6 rfl) (by decide) ?_
    refine r_callV (M' := mX11_fraction) (pc := 11) (tX11_meanTo.at 7 rfl) ml_X11_245 rfl mw_X11_fraction ⟨by decide, by decide⟩ (mH_0) rfl rfl (c_mFrac ⟨by omega, by omega⟩ ⟨by omega, by omega⟩) rfl rfl (Nat.le_of_ble_eq_true rfl) (Nat.le_of_ble_eq_true rfl) (Nat.le_of_ble_eq_true rfl) ?_
    rintro _ _ _ ⟨rfl, rfl, rfl⟩
    refine r_vret (pc := 14) (tX11_meanTo.at 8 rfl) rfl (Nat.le_of_ble_eq_true rfl) (Nat.le_of_ble_eq_true rfl) ?_
    subst hPo
    rw [mqN, mqD, if_pos c, if_pos c]
    exact ⟨rfl, rfl, _, rfl, ⟨⟨⟨rfl, rfl, rfl, rfl⟩, rfl, rfl⟩, rfl, rfl, rfl, rfl⟩, rfl, rfl⟩
end

