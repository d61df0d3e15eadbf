/-! ===== the reference: reachable sets, steps, blocks ===== -/
def riB (W : Nat → Nat) (a S : Nat) : Nat → Nat
  | 0 => S
  | b + 1 => if (riB W a S b).testBit a = true ∧ 0 < W (a * 6 + b) then riB W a S b ||| 2 ^ b else riB W a S b
def riA (W : Nat → Nat) (n S : Nat) : Nat → Nat
  | 0 => S
  | a + 1 => riB W a (riA W n S a) n
def riR (W : Nat → Nat) (n x : Nat) : Nat → Nat
  | 0 => 2 ^ x
  | r + 1 => riA W n (riR W n x r) n
/-- the set that the reference reaches -/
def rcm (W : Nat → Nat) (n x : Nat) : Nat := riR W n x 6
theorem riB_lt {W : Nat → Nat} {a S : Nat} (hS : S < 64) : ∀ b, b ≤ 6 → riB W a S b < 64
  | 0, _ => hS
  | b + 1, hb => by
    have ih := riB_lt (W := W) (a := a) hS b (by omega)
    rw [riB]
    split
    · exact bs_or_lt (n := 6) ih (Nat.pow_lt_pow_right (by omega) (by omega))
    · exact ih
theorem riA_lt {W : Nat → Nat} {n S : Nat} (hS : S < 64) (hn : n ≤ 6) : ∀ a, riA W n S a < 64
  | 0 => hS
  | a + 1 => riB_lt (riA_lt hS hn a) n hn
theorem riR_lt {W : Nat → Nat} {n x : Nat} (hx : x < 6) (hn : n ≤ 6) : ∀ r, riR W n x r < 64
  | 0 => p2_64 hx
  | r + 1 => riA_lt (riR_lt hx hn r) hn n
theorem rcm_lt {W : Nat → Nat} {n x : Nat} (hx : x < 6) (hn : n ≤ 6) : rcm W n x < 64 := riR_lt hx hn 6
theorem tbT {b : Bool} : Bool.toNat b ≠ 0 → b = true := by cases b <;> simp
theorem tbF {b : Bool} : Bool.toNat b = 0 → b = false := by cases b <;> simp
theorem tbNar (b : Bool) : narrow FieldType.boolean (.int (nI (Bool.toNat b))) = .int (nI (Bool.toNat b)) := by cases b <;> rfl
section
variable {v : Ev} {h : Hp} {top m : Nat} {S : MS} {G : GT} {cn : Nat} {cc : Nat → Int}
theorem c_mReach {x : Nat} (hg : rwG S G) (hl : lad S G cn cc) (hn : G.n ≤ 6) (hx : x < 6) (hW : ∀ k, k < 36 → G.W k ≤ 9) : Cal v mX11_reachedFrom 3 0 0 [.ref m, .int (nI x)] (mH v h m S) top (pR (.int (nI (rcm G.W G.n x))) (mH v h m S) top) noX := by
  have hw9 := hg.1
  refine Cal.ofJ (by decide +kernel) rfl (Nat.le_of_ble_eq_true rfl) fun hz0 => ?_
  refine r_ls [some (.ref m), some (.int (nI x)), none, none, none, none] rfl ?_
  refine r_iconst (pc := 0) (w := nI 1) (tX11_reachedFrom.at 0 rfl) (by decide) ?_
  refine r_iload_n (pc := 1) (i := 1) (tX11_reachedFrom.at 1 rfl) rfl rfl ?_
  refine r_ishl (pc := 2) (tX11_reachedFrom.at 2 rfl) ?_
  rw [bs_one x (by omega)]
  refine r_istore_n (pc := 3) (i := 2) (tX11_reachedFrom.at 3 rfl) rfl (by decide) ?_
  refine r_iconst (pc := 4) (w := nI 0) (tX11_reachedFrom.at 4 rfl) (by decide) ?_
  refine r_istore_n (pc := 5) (i := 3) (tX11_reachedFrom.at 5 rfl) rfl (by decide) ?_
  generalize hPo : pR (.int (nI (rcm G.W G.n x))) (mH v h m S) top = Po
  have k1 : ∀ k r o4 o5, r + k = 6 → J v mX11_reachedFrom (rmOf 3 0 0) (KM v Po noX 0 0) top 0 0 (mH v h m S) top 6 [some (.ref m), some (.int (nI x)), some (.int (nI (riR G.W G.n x r))), some (.int (nI r)), o4, o5] [] := by
    intro k
    induction k with
    | zero =>
      intro r o4 o5 hr
      have hr : r = 6 := by omega
      subst hr
      refine r_iload_n (pc := 6) (i := 3) (tX11_reachedFrom.at 6 rfl) rfl rfl ?_
      refine r_bipush (pc := 7) (w := nI 6) (tX11_reachedFrom.at 7 rfl) (by decide) ?_
      refine r_icmp_geN (pc := 9) 86 (tX11_reachedFrom.at 8 rfl) (by decide) (by omega) (by omega) (fun _ => ?_) (fun c => by omega)
      refine r_iload_n (pc := 86) (i := 2) (tX11_reachedFrom.at 46 rfl) rfl rfl ?_
      refine r_iret (pc := 87) (tX11_reachedFrom.at 47 rfl) rfl (Nat.le_of_ble_eq_true rfl) (Nat.le_of_ble_eq_true rfl) ?_
      subst hPo
      exact ⟨rfl, rfl, rfl⟩
    | succ k ih =>
      intro r o4 o5 hr
      have hS := riR_lt (W := G.W) hx hn r
      refine r_iload_n (pc := 6) (i := 3) (tX11_reachedFrom.at 6 rfl) rfl rfl ?_
      refine r_bipush (pc := 7) (w := nI 6) (tX11_reachedFrom.at 7 rfl) (by decide) ?_
      refine r_icmp_geN (pc := 9) 86 (tX11_reachedFrom.at 8 rfl) (by decide) (by omega) (by omega) (fun c => by omega) (fun _ => ?_)
      refine r_iconst (pc := 12) (w := nI 0) (tX11_reachedFrom.at 9 rfl) (by decide) ?_
      refine r_istore (pc := 13) (i := 4) (tX11_reachedFrom.at 10 rfl) (by decide) ?_
      have k2 : ∀ k a o5, a + k = G.n → J v mX11_reachedFrom (rmOf 3 0 0) (KM v Po noX 0 0) top 0 0 (mH v h m S) top 15 [some (.ref m), some (.int (nI x)), some (.int (nI (riA G.W G.n (riR G.W G.n x r) a))), some (.int (nI r)), some (.int (nI a)), o5] [] := by
        intro k
        induction k with
        | zero =>
          intro a o5 ha
          have ha : a = G.n := by omega
          subst ha
          refine r_iload (pc := 15) (i := 4) (tX11_reachedFrom.at 11 rfl) rfl ?_
          refine r_aload_n (pc := 17) (i := 0) (tX11_reachedFrom.at 12 rfl) rfl rfl ?_
          refine r_callV (M' := mX11_count) (pc := 18) (tX11_reachedFrom.at 13 rfl) ml_X11_218 rfl mw_X11_count ⟨by decide, by decide⟩ (mH_0) rfl rfl (c_mCount hg.1) rfl rfl (Nat.le_of_ble_eq_true rfl) (Nat.le_of_ble_eq_true rfl) (Nat.le_of_ble_eq_true rfl) ?_
          rintro _ _ _ ⟨rfl, rfl, rfl⟩
          rw [hg.2.1]
          refine r_icmp_geN (pc := 21) 80 (tX11_reachedFrom.at 14 rfl) (by decide) (by omega) (by omega) (fun _ => ?_) (fun c => by omega)
          first | refine r_iincN (pc := 80) (tX11_reachedFrom.at 44 rfl) rfl (by decide) ?_ | refine r_iinc (pc := 80) (tX11_reachedFrom.at 44 rfl) rfl rfl (by decide) ?_
          refine r_goto (pc := 83) 6 (tX11_reachedFrom.at 45 rfl) (by decide) ?_
          exact ih (r + 1) _ _ (by omega)
        | succ k ih2 =>
          intro a o5 ha
          have hA := riA_lt (W := G.W) hS hn a
          refine r_iload (pc := 15) (i := 4) (tX11_reachedFrom.at 11 rfl) rfl ?_
          refine r_aload_n (pc := 17) (i := 0) (tX11_reachedFrom.at 12 rfl) rfl rfl ?_
          refine r_callV (M' := mX11_count) (pc := 18) (tX11_reachedFrom.at 13 rfl) ml_X11_218 rfl mw_X11_count ⟨by decide, by decide⟩ (mH_0) rfl rfl (c_mCount hg.1) rfl rfl (Nat.le_of_ble_eq_true rfl) (Nat.le_of_ble_eq_true rfl) (Nat.le_of_ble_eq_true rfl) ?_
          rintro _ _ _ ⟨rfl, rfl, rfl⟩
          rw [hg.2.1]
          refine r_icmp_geN (pc := 21) 80 (tX11_reachedFrom.at 14 rfl) (by decide) (by omega) (by omega) (fun c => by omega) (fun _ => ?_)
          refine r_iconst (pc := 24) (w := nI 0) (tX11_reachedFrom.at 15 rfl) (by decide) ?_
          refine r_istore (pc := 25) (i := 5) (tX11_reachedFrom.at 16 rfl) (by decide) ?_
          have k3 : ∀ k b, b + k = G.n → J v mX11_reachedFrom (rmOf 3 0 0) (KM v Po noX 0 0) top 0 0 (mH v h m S) top 27 [some (.ref m), some (.int (nI x)), some (.int (nI (riB G.W a (riA G.W G.n (riR G.W G.n x r) a) b))), some (.int (nI r)), some (.int (nI a)), some (.int (nI b))] [] := by
            intro k
            induction k with
            | zero =>
              intro b hb
              have hb : b = G.n := by omega
              subst hb
              refine r_iload (pc := 27) (i := 5) (tX11_reachedFrom.at 17 rfl) rfl ?_
              refine r_aload_n (pc := 29) (i := 0) (tX11_reachedFrom.at 18 rfl) rfl rfl ?_
              refine r_callV (M' := mX11_count) (pc := 30) (tX11_reachedFrom.at 19 rfl) ml_X11_218 rfl mw_X11_count ⟨by decide, by decide⟩ (mH_0) rfl rfl (c_mCount hg.1) rfl rfl (Nat.le_of_ble_eq_true rfl) (Nat.le_of_ble_eq_true rfl) (Nat.le_of_ble_eq_true rfl) ?_
              rintro _ _ _ ⟨rfl, rfl, rfl⟩
              rw [hg.2.1]
              refine r_icmp_geN (pc := 33) 74 (tX11_reachedFrom.at 20 rfl) (by decide) (by omega) (by omega) (fun _ => ?_) (fun c => by omega)
              first | refine r_iincN (pc := 74) (tX11_reachedFrom.at 42 rfl) rfl (by decide) ?_ | refine r_iinc (pc := 74) (tX11_reachedFrom.at 42 rfl) rfl rfl (by decide) ?_
              refine r_goto (pc := 77) 15 (tX11_reachedFrom.at 43 rfl) (by decide) ?_
              exact ih2 (a + 1) _ (by omega)
            | succ k ih3 =>
              intro b hb
              have hB := riB_lt (W := G.W) (a := a) hA b (by omega)
              have hww := hW (a * 6 + b) (by omega)
              have nx := ih3 (b + 1) (by omega)
              rw [riB] at nx
              generalize riB G.W a (riA G.W G.n (riR G.W G.n x r) a) b = B at *
              have hbt : Bool.toNat (B.testBit a) ≤ 1 := Bool.toNat_le _
              refine r_iload (pc := 27) (i := 5) (tX11_reachedFrom.at 17 rfl) rfl ?_
              refine r_aload_n (pc := 29) (i := 0) (tX11_reachedFrom.at 18 rfl) rfl rfl ?_
              refine r_callV (M' := mX11_count) (pc := 30) (tX11_reachedFrom.at 19 rfl) ml_X11_218 rfl mw_X11_count ⟨by decide, by decide⟩ (mH_0) rfl rfl (c_mCount hg.1) rfl rfl (Nat.le_of_ble_eq_true rfl) (Nat.le_of_ble_eq_true rfl) (Nat.le_of_ble_eq_true rfl) ?_
              rintro _ _ _ ⟨rfl, rfl, rfl⟩
              rw [hg.2.1]
              refine r_icmp_geN (pc := 33) 74 (tX11_reachedFrom.at 20 rfl) (by decide) (by omega) (by omega) (fun c => by omega) (fun _ => ?_)
              refine r_iload_n (pc := 36) (i := 2) (tX11_reachedFrom.at 21 rfl) rfl rfl ?_
              refine r_iload (pc := 37) (i := 4) (tX11_reachedFrom.at 22 rfl) rfl ?_
              refine r_callS (M' := mX11_has) (pc := 39) (tX11_reachedFrom.at 23 rfl) ml_X11_221 rfl mw_X11_has ⟨by decide, by decide⟩ (c_mHas hB (show a < 8 by omega)) rfl rfl (Nat.le_of_ble_eq_true rfl) (Nat.le_of_ble_eq_true rfl) (Nat.le_of_ble_eq_true rfl) ?_
              rintro _ _ _ ⟨rfl, rfl, rfl⟩
              refine r_if_eqN (pc := 42) 68 (tX11_reachedFrom.at 24 rfl) (by decide) (by omega) (fun c => ?_) (fun c => ?_)
              · rw [if_neg (by intro z; rw [z.1] at c; cases c)] at nx
                first | refine r_iincN (pc := 68) (tX11_reachedFrom.at 40 rfl) rfl (by decide) ?_ | refine r_iinc (pc := 68) (tX11_reachedFrom.at 40 rfl) rfl rfl (by decide) ?_
                refine r_goto (pc := 71) 27 (tX11_reachedFrom.at 41 rfl) (by decide) ?_
                exact nx
              · refine r_aload_n (pc := 45) (i := 0) (tX11_reachedFrom.at 25 rfl) rfl rfl ?_
                refine r_get (pc := 46) (tX11_reachedFrom.at 26 rfl) gf_X11_23 (mH_0) rfl ?_
                refine r_bipush (pc := 49) (w := nI 6) (tX11_reachedFrom.at 27 rfl) (by decide) ?_
                refine r_iload (pc := 51) (i := 4) (tX11_reachedFrom.at 28 rfl) rfl ?_
                first | refine r_imulN (pc := 53) (tX11_reachedFrom.at 29 rfl) ?_ | refine r_imulZ (pc := 53) (tX11_reachedFrom.at 29 rfl) ?_ | refine r_imul (pc := 53) (tX11_reachedFrom.at 29 rfl) ?_
                refine r_iload (pc := 54) (i := 5) (tX11_reachedFrom.at 30 rfl) rfl ?_
                first | refine r_iaddN (pc := 56) (tX11_reachedFrom.at 31 rfl) ?_ | refine r_iaddZ (pc := 56) (tX11_reachedFrom.at 31 rfl) ?_ | refine r_iadd (pc := 56) (tX11_reachedFrom.at 31 rfl) ?_
                refine r_iald (pc := 57) (tX11_reachedFrom.at 32 rfl) (mH_wts) (6 * a + b) (rfl) (by omega) (Nat.le_of_ble_eq_true rfl) ?_
                refine r_eq rfl (st2 := [.int (nI (G.W (a * 6 + b)))]) (by rw [← (hl.1 a b (by omega) (by omega)).1]; rfl) ?_
                refine r_if_leN (pc := 58) 68 (tX11_reachedFrom.at 33 rfl) (by decide) (by omega) (fun c2 => ?_) (fun c2 => ?_)
                · rw [if_neg (by omega)] at nx
                  first | refine r_iincN (pc := 68) (tX11_reachedFrom.at 40 rfl) rfl (by decide) ?_ | refine r_iinc (pc := 68) (tX11_reachedFrom.at 40 rfl) rfl rfl (by decide) ?_
                  refine r_goto (pc := 71) 27 (tX11_reachedFrom.at 41 rfl) (by decide) ?_
                  exact nx
                · rw [if_pos ⟨tbT c, by omega⟩] at nx
                  refine r_iload_n (pc := 61) (i := 2) (tX11_reachedFrom.at 34 rfl) rfl rfl ?_
                  refine r_iconst (pc := 62) (w := nI 1) (tX11_reachedFrom.at 35 rfl) (by decide) ?_
                  refine r_iload (pc := 63) (i := 5) (tX11_reachedFrom.at 36 rfl) rfl ?_
                  refine r_ishl (pc := 65) (tX11_reachedFrom.at 37 rfl) ?_
                  rw [bs_one b (by omega)]
                  refine r_ior (pc := 66) (tX11_reachedFrom.at 38 rfl) ?_
                  rw [bs_or _ hB _ (p2_64 (by omega))]
                  refine r_istore_n (pc := 67) (i := 2) (tX11_reachedFrom.at 39 rfl) rfl (by decide) ?_
                  first | refine r_iincN (pc := 68) (tX11_reachedFrom.at 40 rfl) rfl (by decide) ?_ | refine r_iinc (pc := 68) (tX11_reachedFrom.at 40 rfl) rfl rfl (by decide) ?_
                  refine r_goto (pc := 71) 27 (tX11_reachedFrom.at 41 rfl) (by decide) ?_
                  exact nx
          exact k3 G.n 0 (by omega)
      exact k2 G.n 0 _ (by omega)
  exact k1 6 0 _ _ (by omega)
/-- what is told of an index -/
theorem c_mIsV {z : Int} (hn : S.now < 9) (hz : inI z) (h6 : S.rw 0 ≤ 6) (ht : S.thr < 65536) : Cal v mX11_isVertex 3 0 0 [.ref m, .int (zI z)] (mH v h m S) top (pR (.int (nI (Bool.toNat (okT0 (S.rgt (inB z 0 ((S.rw 0 : Nat) - 1)) 1))))) (mH v h m (S.rgt (inB z 0 ((S.rw 0 : Nat) - 1)) 1)) top) noX := by
  obtain ⟨z1, z2⟩ := hz
  refine Cal.ofJ (by decide +kernel) rfl (Nat.le_of_ble_eq_true rfl) fun hz0 => ?_
  refine r_ls [some (.ref m), some (.int (zI z))] rfl ?_
  refine r_aload_n (pc := 0) (i := 0) (tX11_isVertex.at 0 rfl) rfl rfl ?_
  refine r_iload_n (pc := 1) (i := 1) (tX11_isVertex.at 1 rfl) rfl rfl ?_
  first | refine r_i2lN (pc := 2) (tX11_isVertex.at 2 rfl) (by omega) ?_ | refine r_i2lZ (pc := 2) (tX11_isVertex.at 2 rfl) ⟨by omega, by omega⟩ ?_ | refine r_i2l (pc := 2) (tX11_isVertex.at 2 rfl) ?_
  refine r_lconst (pc := 3) (w := lI 0) (tX11_isVertex.at 3 rfl) (by decide) ?_
  refine r_aload_n (pc := 4) (i := 0) (tX11_isVertex.at 4 rfl) rfl rfl ?_
  refine r_callV (M' := mX11_count) (pc := 5) (tX11_isVertex.at 5 rfl) ml_X11_218 rfl mw_X11_count ⟨by decide, by decide⟩ (mH_0) rfl rfl (c_mCount hn) rfl rfl (Nat.le_of_ble_eq_true rfl) (Nat.le_of_ble_eq_true rfl) (Nat.le_of_ble_eq_true rfl) ?_
  rintro _ _ _ ⟨rfl, rfl, rfl⟩
  rw [← zI_nat]
  refine r_eq rfl (st2 := [.int (zI (S.rw 0 : Nat)), .long (lI 0), .long (lI z), .ref m]) rfl ?_
  refine r_iconst (pc := 8) (w := zI 1) (tX11_isVertex.at 6 rfl) (by decide) ?_
  refine r_isubZ (pc := 9) (tX11_isVertex.at 7 rfl) ?_
  refine r_i2lZ (pc := 10) (tX11_isVertex.at 8 rfl) ⟨by omega, by omega⟩ ?_
  refine r_callS (M' := mX11_isIn) (pc := 11) (tX11_isVertex.at 9 rfl) ml_X11_114 rfl mw_X11_isIn ⟨by decide, by decide⟩ (c_mIsIn ⟨by omega, by omega⟩ ⟨by omega, by omega⟩ ⟨by omega, by omega⟩) rfl rfl (Nat.le_of_ble_eq_true rfl) (Nat.le_of_ble_eq_true rfl) (Nat.le_of_ble_eq_true rfl) ?_
  rintro _ _ _ ⟨rfl, rfl, rfl⟩
  refine r_iconst (pc := 14) (w := nI 1) (tX11_isVertex.at 10 rfl) (by decide) ?_
  refine r_callV (M' := mX11_right) (pc := 15) (tX11_isVertex.at 11 rfl) ml_X11_190 rfl mw_X11_right ⟨by decide, by decide⟩ (mH_0) rfl rfl (c_mRight ht (by omega)) rfl rfl (Nat.le_of_ble_eq_true rfl) (Nat.le_of_ble_eq_true rfl) (Nat.le_of_ble_eq_true rfl) ?_
  rintro _ _ _ ⟨rfl, rfl, rfl⟩
  refine r_zret (pc := 18) (tX11_isVertex.at 12 rfl) rfl (tbNar _) (Nat.le_of_ble_eq_true rfl) (Nat.le_of_ble_eq_true rfl) ?_
  exact ⟨rfl, rfl, rfl⟩
theorem c_mIsE {z : Int} (hn : S.now < 9) (hz : inI z) (h6 : S.rw 1 ≤ 15) : Cal v mX11_isEdge 3 0 0 [.ref m, .int (zI z)] (mH v h m S) top (pR (.int (nI (Bool.toNat (okT0 ((S.s_thr 0).rgt (inB z 0 ((S.rw 1 : Nat) - 1)) 1))))) (mH v h m ((S.s_thr 0).rgt (inB z 0 ((S.rw 1 : Nat) - 1)) 1)) top) noX := by
  obtain ⟨z1, z2⟩ := hz
  refine Cal.ofJ (by decide +kernel) rfl (Nat.le_of_ble_eq_true rfl) fun hz0 => ?_
  refine r_ls [some (.ref m), some (.int (zI z))] rfl ?_
  refine r_aload_n (pc := 0) (i := 0) (tX11_isEdge.at 0 rfl) rfl rfl ?_
  refine r_iconst (pc := 1) (w := nI 0) (tX11_isEdge.at 1 rfl) (by decide) ?_
  refine r_put (pc := 2) (tX11_isEdge.at 2 rfl) pf_X11_55 (mH_0) (Nat.le_of_ble_eq_true rfl) (rfl) (rfl) ?_
  refine r_eq (h2 := mH v h m (S.s_thr 0)) (mH_p0 (S' := S.s_thr 0) rfl) rfl ?_
  refine r_aload_n (pc := 5) (i := 0) (tX11_isEdge.at 3 rfl) rfl rfl ?_
  refine r_iload_n (pc := 6) (i := 1) (tX11_isEdge.at 4 rfl) rfl rfl ?_
  first | refine r_i2lN (pc := 7) (tX11_isEdge.at 5 rfl) (by omega) ?_ | refine r_i2lZ (pc := 7) (tX11_isEdge.at 5 rfl) ⟨by omega, by omega⟩ ?_ | refine r_i2l (pc := 7) (tX11_isEdge.at 5 rfl) ?_
  refine r_lconst (pc := 8) (w := lI 0) (tX11_isEdge.at 6 rfl) (by decide) ?_
  refine r_aload_n (pc := 9) (i := 0) (tX11_isEdge.at 7 rfl) rfl rfl ?_
  refine r_iconst (pc := 10) (w := nI 1) (tX11_isEdge.at 8 rfl) (by decide) ?_
  refine r_callV (M' := mX11_get) (pc := 11) (tX11_isEdge.at 9 rfl) ml_X11_61 rfl mw_X11_get ⟨by decide, by decide⟩ (mH_0) rfl rfl (c_mGet (S := S.s_thr 0) (k := 1) hn (by omega)) rfl rfl (Nat.le_of_ble_eq_true rfl) (Nat.le_of_ble_eq_true rfl) (Nat.le_of_ble_eq_true rfl) ?_
  rintro _ _ _ ⟨rfl, rfl, rfl⟩
  rw [show (S.s_thr 0).rw 1 = S.rw 1 from rfl, ← zI_nat (S.rw 1)]
  refine r_eq rfl (st2 := [.int (zI (S.rw 1 : Nat)), .long (lI 0), .long (lI z), .ref m]) rfl ?_
  refine r_iconst (pc := 14) (w := zI 1) (tX11_isEdge.at 10 rfl) (by decide) ?_
  refine r_isubZ (pc := 15) (tX11_isEdge.at 11 rfl) ?_
  refine r_i2lZ (pc := 16) (tX11_isEdge.at 12 rfl) ⟨by omega, by omega⟩ ?_
  refine r_callS (M' := mX11_isIn) (pc := 17) (tX11_isEdge.at 13 rfl) ml_X11_114 rfl mw_X11_isIn ⟨by decide, by decide⟩ (c_mIsIn ⟨by omega, by omega⟩ ⟨by omega, by omega⟩ ⟨by omega, by omega⟩) rfl rfl (Nat.le_of_ble_eq_true rfl) (Nat.le_of_ble_eq_true rfl) (Nat.le_of_ble_eq_true rfl) ?_
  rintro _ _ _ ⟨rfl, rfl, rfl⟩
  refine r_iconst (pc := 20) (w := nI 1) (tX11_isEdge.at 14 rfl) (by decide) ?_
  refine r_callV (M' := mX11_right) (pc := 21) (tX11_isEdge.at 15 rfl) ml_X11_190 rfl mw_X11_right ⟨by decide, by decide⟩ (mH_0) rfl rfl (c_mRight (S := S.s_thr 0) (show (0 : Nat) < 65536 by omega) (by omega)) rfl rfl (Nat.le_of_ble_eq_true rfl) (Nat.le_of_ble_eq_true rfl) (Nat.le_of_ble_eq_true rfl) ?_
  rintro _ _ _ ⟨rfl, rfl, rfl⟩
  refine r_zret (pc := 24) (tX11_isEdge.at 16 rfl) rfl (tbNar _) (Nat.le_of_ble_eq_true rfl) (Nat.le_of_ble_eq_true rfl) ?_
  exact ⟨rfl, rfl, rfl⟩
/-- the tables laid, and thrown as told -/
def pSt (v : Ev) (h : Hp) (m : Nat) (S : MS) (top : Nat) (G : GT) (cn : Nat) (cc : Nat → Int) (t : Nat) : Option Value → Hp → Nat → Prop := fun r h' top' => r = some (.int (nI (Bool.toNat (decide (t = 0))))) ∧ top = top' ∧ ∃ S', h' = mH v h m S' ∧ per S S' ∧ S'.thr = t ∧ lad S' G cn cc
theorem rgt_pel {S : MS} {b : Bool} {c : Nat} : per S (S.rgt b c) ∧ (S.rgt b c).wts = S.wts ∧ (S.rgt b c).cst = S.cst ∧ (S.rgt b c).dgs = S.dgs ∧ (S.rgt b c).thr = (if S.thr = 0 ∧ b = false then c else S.thr) := by
  unfold MS.rgt
  split <;> exact ⟨⟨⟨rfl, rfl, rfl, rfl⟩, rfl, rfl⟩, rfl, rfl, rfl, rfl⟩
theorem lad.rgt {b : Bool} {c : Nat} (hl : lad S G cn cc) : lad (S.rgt b c) G cn cc := by
  obtain ⟨-, e1, e2, e3, -⟩ := rgt_pel (S := S) (b := b) (c := c)
  unfold lad
  rw [e1, e2, e3]
  exact hl
theorem inB_t {z : Int} {n : Nat} : inB z 0 ((n : Int) - 1) = true ↔ 0 ≤ z ∧ z < n := by
  unfold inB
  simp
  omega
theorem inB_f {z l u : Int} : inB z l u = false ↔ ¬ (l ≤ z ∧ z ≤ u) := by
  unfold inB
  simp
/-- a vertex that there is, or not -/
def vtT (G : GT) (z : Int) : Nat := if 0 ≤ z ∧ z < G.n then 0 else 1
theorem c_mStarts {z : Int} (hr : RW S G cn cc) (hz : inI z) : Cal v mX11_starts 4 0 0 [.ref m, .int (zI z)] (mH v h m S) top (pSt v h m S top G cn cc (vtT G z)) noX := by
  have hn := hr.1.1
  refine Cal.ofJ (by decide +kernel) rfl (Nat.le_of_ble_eq_true rfl) fun hz0 => ?_
  refine r_ls [some (.ref m), some (.int (zI z))] rfl ?_
  refine r_aload_n (pc := 0) (i := 0) (tX11_starts.at 0 rfl) rfl rfl ?_
  refine r_iconst (pc := 1) (w := nI 0) (tX11_starts.at 1 rfl) (by decide) ?_
  refine r_put (pc := 2) (tX11_starts.at 2 rfl) pf_X11_55 (mH_0) (Nat.le_of_ble_eq_true rfl) (rfl) (rfl) ?_
  refine r_eq (h2 := mH v h m (S.s_thr 0)) (mH_p0 (S' := S.s_thr 0) rfl) rfl ?_
  generalize hPo : pSt v h m S top G cn cc (vtT G z) = Po
  refine r_aload_n (pc := 5) (i := 0) (tX11_starts.at 3 rfl) rfl rfl ?_
  refine r_callV (M' := mX11_lays) (pc := 6) (tX11_starts.at 4 rfl) ml_X11_268 rfl mw_X11_lays ⟨by decide, by decide⟩ (mH_0) rfl rfl ((c_mLays (S := S.s_thr 0) (per.RW (S := S) ⟨⟨rfl, rfl, rfl, rfl⟩, rfl, rfl⟩ hr))) rfl rfl (Nat.le_of_ble_eq_true rfl) (Nat.le_of_ble_eq_true rfl) (Nat.le_of_ble_eq_true rfl) ?_
  rintro _ _ _ ⟨rfl, rfl, S1, rfl, p1, t1, l1⟩
  have g1 := p1.rwG (per.rwG (S := S) (S' := S.s_thr 0) ⟨⟨rfl, rfl, rfl, rfl⟩, rfl, rfl⟩ hr.1)
  have t1 : S1.thr = 0 := t1
  have e0 : S1.rw 0 = G.n := g1.2.1
  have h6 := hr.2.1.1.1
  refine r_aload_n (pc := 9) (i := 0) (tX11_starts.at 5 rfl) rfl rfl ?_
  refine r_iload_n (pc := 10) (i := 1) (tX11_starts.at 6 rfl) rfl rfl ?_
  refine r_callV (M' := mX11_isVertex) (pc := 11) (tX11_starts.at 7 rfl) ml_X11_271 rfl mw_X11_isVertex ⟨by decide, by decide⟩ (mH_0) rfl rfl (c_mIsV (S := S1) g1.1 hz (by omega) (by omega)) rfl rfl (Nat.le_of_ble_eq_true rfl) (Nat.le_of_ble_eq_true rfl) (Nat.le_of_ble_eq_true rfl) ?_
  rintro _ _ _ ⟨rfl, rfl, rfl⟩
  refine r_zret (pc := 14) (tX11_starts.at 8 rfl) rfl (tbNar _) (Nat.le_of_ble_eq_true rfl) (Nat.le_of_ble_eq_true rfl) ?_
  obtain ⟨q1, q2, q3, q4, q5⟩ := rgt_pel (S := S1) (b := inB z 0 ((S1.rw 0 : Nat) - 1)) (c := 1)
  have e5 : (S1.rgt (inB z 0 ((S1.rw 0 : Nat) - 1)) 1).thr = vtT G z := by
    rw [q5, t1, e0, vtT]
    by_cases c : 0 ≤ z ∧ z < G.n
    · rw [if_pos c, inB_t.mpr c, if_neg (by simp)]
    · rw [if_neg c, if_pos ⟨rfl, inB_f.mpr (by omega)⟩]
  subst hPo
  refine ⟨?_, rfl, _, rfl, per.trans (per.trans (B := S.s_thr 0) ⟨⟨rfl, rfl, rfl, rfl⟩, rfl, rfl⟩ p1) q1, e5, l1.rgt⟩
  unfold okT0
  rw [e5]
theorem c_mStarts2 {z y : Int} (hr : RW S G cn cc) (hz : inI z) (hy : inI y) : Cal v mX11_starts2 5 0 0 [.ref m, .int (zI z), .int (zI y)] (mH v h m S) top (pSt v h m S top G cn cc (if vtT G z = 0 then vtT G y else 1)) noX := by
  have hn := hr.1.1
  refine Cal.ofJ (by decide +kernel) rfl (Nat.le_of_ble_eq_true rfl) fun hz0 => ?_
  refine r_ls [some (.ref m), some (.int (zI z)), some (.int (zI y))] rfl ?_
  generalize hPo : pSt v h m S top G cn cc (if vtT G z = 0 then vtT G y else 1) = Po
  refine r_aload_n (pc := 0) (i := 0) (tX11_starts2.at 0 rfl) rfl rfl ?_
  refine r_iload_n (pc := 1) (i := 1) (tX11_starts2.at 1 rfl) rfl rfl ?_
  refine r_callV (M' := mX11_starts) (pc := 2) (tX11_starts2.at 2 rfl) ml_X11_274 rfl mw_X11_starts ⟨by decide, by decide⟩ (mH_0) rfl rfl ((c_mStarts hr hz)) rfl rfl (Nat.le_of_ble_eq_true rfl) (Nat.le_of_ble_eq_true rfl) (Nat.le_of_ble_eq_true rfl) ?_
  rintro _ _ _ ⟨rfl, rfl, S1, rfl, p1, t1, l1⟩
  by_cases c : vtT G z = 0
  · rw [decide_eq_true c, Bool.toNat_true]
    refine r_if_eqN (pc := 5) 20 (tX11_starts2.at 3 rfl) (by decide) (by omega) (fun c => by omega) (fun _ => ?_)
    have g1 := p1.rwG hr.1
    have e0 : S1.rw 0 = G.n := g1.2.1
    have h6 := hr.2.1.1.1
    refine r_aload_n (pc := 8) (i := 0) (tX11_starts2.at 4 rfl) rfl rfl ?_
    refine r_iload_n (pc := 9) (i := 2) (tX11_starts2.at 5 rfl) rfl rfl ?_
    refine r_callV (M' := mX11_isVertex) (pc := 10) (tX11_starts2.at 6 rfl) ml_X11_271 rfl mw_X11_isVertex ⟨by decide, by decide⟩ (mH_0) rfl rfl (c_mIsV (S := S1) g1.1 hy (by omega) (by omega)) rfl rfl (Nat.le_of_ble_eq_true rfl) (Nat.le_of_ble_eq_true rfl) (Nat.le_of_ble_eq_true rfl) ?_
    rintro _ _ _ ⟨rfl, rfl, rfl⟩
    obtain ⟨q1, q2, q3, q4, q5⟩ := rgt_pel (S := S1) (b := inB y 0 ((S1.rw 0 : Nat) - 1)) (c := 1)
    have e5 : (S1.rgt (inB y 0 ((S1.rw 0 : Nat) - 1)) 1).thr = vtT G y := by
      rw [q5, t1, c, e0, vtT]
      by_cases c : 0 ≤ y ∧ y < G.n
      · rw [if_pos c, inB_t.mpr c, if_neg (by simp)]
      · rw [if_neg c, if_pos ⟨rfl, inB_f.mpr (by omega)⟩]
    have fin : ∀ b : Nat, b = Bool.toNat (decide (vtT G y = 0)) → Po (some (.int (nI b))) (mH v h m (S1.rgt (inB y 0 ((S1.rw 0 : Nat) - 1)) 1)) top := by
      intro b hb
      subst hPo
      rw [if_pos c]
      exact ⟨by rw [hb], rfl, _, rfl, per.trans p1 q1, e5, l1.rgt⟩
    rw [show okT0 (S1.rgt (inB y 0 ((S1.rw 0 : Nat) - 1)) 1) = decide (vtT G y = 0) by unfold okT0; rw [e5]]
    by_cases c2 : vtT G y = 0
    · rw [decide_eq_true c2, Bool.toNat_true] at fin ⊢
      refine r_if_eqN (pc := 13) 20 (tX11_starts2.at 7 rfl) (by decide) (by omega) (fun c => by omega) (fun _ => ?_)
      refine r_iconst (pc := 16) (w := nI 1) (tX11_starts2.at 8 rfl) (by decide) ?_
      refine r_goto (pc := 17) 21 (tX11_starts2.at 9 rfl) (by decide) ?_
      refine r_zret (pc := 21) (tX11_starts2.at 11 rfl) rfl (rfl) (Nat.le_of_ble_eq_true rfl) (Nat.le_of_ble_eq_true rfl) ?_
      exact fin 1 rfl
    · rw [decide_eq_false c2, Bool.toNat_false] at fin ⊢
      refine r_if_eqN (pc := 13) 20 (tX11_starts2.at 7 rfl) (by decide) (by omega) (fun _ => ?_) (fun c => by omega)
      refine r_iconst (pc := 20) (w := nI 0) (tX11_starts2.at 10 rfl) (by decide) ?_
      refine r_zret (pc := 21) (tX11_starts2.at 11 rfl) rfl (rfl) (Nat.le_of_ble_eq_true rfl) (Nat.le_of_ble_eq_true rfl) ?_
      exact fin 0 rfl
  · rw [decide_eq_false c, Bool.toNat_false]
    refine r_if_eqN (pc := 5) 20 (tX11_starts2.at 3 rfl) (by decide) (by omega) (fun _ => ?_) (fun c => by omega)
    refine r_iconst (pc := 20) (w := nI 0) (tX11_starts2.at 10 rfl) (by decide) ?_
    refine r_zret (pc := 21) (tX11_starts2.at 11 rfl) rfl (rfl) (Nat.le_of_ble_eq_true rfl) (Nat.le_of_ble_eq_true rfl) ?_
    subst hPo
    rw [if_neg c]
    refine ⟨rfl, rfl, S1, rfl, p1, ?_, l1⟩
    rw [t1]
    unfold vtT at *
    split <;> simp_all
end

