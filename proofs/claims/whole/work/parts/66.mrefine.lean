/-! ===== the reference: refining ===== -/
theorem nmG_cong {B B2 : Nat → Nat} {n : Nat} (h : ∀ k, k < n → B k = B2 k) : nmG B n = nmG B2 n := grp_cong n (fun k j hk hj => by unfold qB; rw [h k (by omega), h j hj])
/-- after f rounds there is nothing to divide -/
theorem rfn_stop : ∀ f G, G.n ≤ 6 → canB G → 7 ≤ G.b + f → ∀ e, GT.rfn (f + e) G = GT.rfn f G
  | 0, G, hn, hc, hf, e => by
    have := hc.b6 hn
    omega
  | f + 1, G, hn, hc, hf, e => by
    rw [show f + 1 + e = (f + e) + 1 by omega, GT.rfn, GT.rfn]
    by_cases c : ptB G = true
    · rw [if_pos c, if_pos c]
      have h1 := dvd_more hc c
      refine rfn_stop f G.dvd hn ?_ (by omega) e
      exact canB_of (p := G.sw) (F := fun _ => 0) (G := G.dvd) (eqv_stw _ _ _ _ _) (fun k hk => if_pos hk) rfl
    · rw [if_neg c, if_neg c]
theorem dvd_can {G : GT} : canB G.dvd := canB_of (p := G.sw) (F := fun _ => 0) (G := G.dvd) (eqv_stw _ _ _ _ _) (fun k hk => if_pos hk) rfl
theorem dvd_ok {G : GT} (h : okG G) : okG G.dvd := by
  obtain ⟨h1, h2, h3, h4, h5⟩ := h
  refine ⟨h1, h2, h3, fun k hk => ?_, h5⟩
  show cpF (grpL G.sw (fun _ => 0) G.n).1 G.B G.n k ≤ 6
  unfold cpF
  split
  · next c =>
    have h6 := (grp_le G.sw (fun _ => 0) G.n).2 k c
    have h7 := (grp_le G.sw (fun _ => 0) G.n).1
    omega
  · exact h4 k hk
theorem dvd_lab {G : GT} {f : Nat → Nat} (h0 : f 0 = G.n) : ∀ k, nbF (lbF f G.n (dvL (stw G.W G.B G.n G.b))) k = lbF f G.n G.dvd.B k := by
  intro k
  have e0 : lbF f G.n (dvL (stw G.W G.B G.n G.b)) 0 = G.n := by
    unfold lbF
    rw [if_neg (by omega), h0]
  unfold nbF
  rw [e0]
  by_cases c : 49 ≤ k ∧ k < 49 + G.n
  · rw [if_pos c, nmG_cong (B2 := dvL (stw G.W G.B G.n G.b)) (fun j hj => by
      unfold lbF
      rw [if_pos (by omega), show 49 + j - 49 = j by omega]), dvL_grp (eqv_stw _ _ _ _ _)]
    unfold lbF
    rw [if_pos c]
    show _ = cpF (grpL G.sw (fun _ => 0) G.n).1 G.B G.n (k - 49)
    unfold cpF
    rw [if_pos (by omega)]
    rfl
  · rw [if_neg c]
    unfold lbF
    rw [if_neg c, if_neg c]
section
variable {v : Ev} {h : Hp} {top m : Nat} {S : MS} {G : GT} {cn : Nat} {cc : Nat → Int}
theorem c_mDivs {S0 : MS} {f : Nat → Nat} (hn0 : S0.now < 9) (c0 : chd S0 S f) (hr : RW S G cn cc) (hl : lad S G cn cc) (hc : canB G) : Cal v mX11_divides 5 0 0 [.ref m] (mH v h m S) top (fun r h' top' => r = none ∧ top = top' ∧ ∃ S', h' = mH v h m S' ∧ S'.thr = S.thr ∧ chd S0 S' (lbF f G.n G.dvd.B)) noX := by
  have h6 := hr.2.1.1.1
  have hg := hr.1
  have hW := hr.2.1.w9
  have hB : ∀ k, k < G.n → G.B k ≤ 6 := fun k hk => hr.2.1.1.2.2.2.1 k (by omega)
  have hb6 := hc.b6 h6
  have hf0 : f 0 = G.n := by rw [← c0.2.2.2.1 0 (by omega)]; exact hg.2.1
  refine Cal.ofJ (by decide +kernel) rfl (Nat.le_of_ble_eq_true rfl) fun hz0 => ?_
  refine r_ls [some (.ref m), none, none, none, none, none, none] rfl ?_
  generalize hPo : (fun (r : Option Value) (h' : Hp) (top' : Nat) => r = none ∧ top = top' ∧ ∃ S', h' = mH v h m S' ∧ S'.thr = S.thr ∧ chd S0 S' (lbF f G.n G.dvd.B)) = Po
  refine r_aload_n (pc := 0) (i := 0) (tX11_divides.at 0 rfl) rfl rfl ?_
  refine r_callV (M' := mX11_blocksNow) (pc := 1) (tX11_divides.at 1 rfl) ml_X11_307 rfl mw_X11_blocksNow ⟨by decide, by decide⟩ (mH_0) rfl rfl (c_mBlk hg h6 hB) rfl rfl (Nat.le_of_ble_eq_true rfl) (Nat.le_of_ble_eq_true rfl) (Nat.le_of_ble_eq_true rfl) ?_
  rintro _ _ _ ⟨rfl, rfl, rfl⟩
  rw [hc.bk]
  refine r_istore_n (pc := 4) (i := 1) (tX11_divides.at 2 rfl) rfl (by decide) ?_
  refine r_iconst (pc := 5) (w := nI 0) (tX11_divides.at 3 rfl) (by decide) ?_
  refine r_istore_n (pc := 6) (i := 2) (tX11_divides.at 4 rfl) rfl (by decide) ?_
  have k2 : ∀ q u S2 o3 o4 o5 o6, u + q = G.n → S2.thr = S.thr → (∀ k, k < G.n → S2.fsh k = dvL (stw G.W G.B G.n G.b) k) → chd S0 S2 (lbF f u (dvL (stw G.W G.B G.n G.b))) → J v mX11_divides (rmOf 5 0 0) (KM v Po noX 0 0) top 0 0 (mH v h m S2) top 126 [some (.ref m), some (.int (nI G.b)), some (.int (nI u)), o3, o4, o5, o6] [] := by
    intro q
    induction q with
    | zero =>
      intro u S2 o3 o4 o5 o6 hu t2 hF c2
      have hu : u = G.n := by omega
      subst hu
      have hn2 : S2.now < 9 := by rw [c2.2.1]; omega
      have e0 : lbF f G.n (dvL (stw G.W G.B G.n G.b)) 0 = G.n := by
        unfold lbF
        rw [if_neg (by omega), hf0]
      obtain ⟨cN, -⟩ := c_mNum2 (v := v) (h := h) (top := top) (m := m) hn0 c2 (by omega) (fun k hk => by
        rw [e0] at hk
        unfold lbF
        rw [if_pos (by omega), show 49 + k - 49 = k by omega]
        have := (fstN_spec (fun u => stw G.W G.B G.n G.b u k) k).1
        unfold dvL
        omega)
      refine r_iload_n (pc := 126) (i := 2) (tX11_divides.at 68 rfl) rfl rfl ?_
      refine r_aload_n (pc := 127) (i := 0) (tX11_divides.at 69 rfl) rfl rfl ?_
      refine r_callV (M' := mX11_count) (pc := 128) (tX11_divides.at 70 rfl) ml_X11_218 rfl mw_X11_count ⟨by decide, by decide⟩ (mH_0) rfl rfl (c_mCount (S := S2) hn2) rfl rfl (Nat.le_of_ble_eq_true rfl) (Nat.le_of_ble_eq_true rfl) (Nat.le_of_ble_eq_true rfl) ?_
      rintro _ _ _ ⟨rfl, rfl, rfl⟩
      rw [c2.2.2.2.1 0 (by omega), e0]
      refine r_icmp_geN (pc := 131) 154 (tX11_divides.at 71 rfl) (by decide) (by omega) (by omega) (fun _ => ?_) (fun c => by omega)
      refine r_aload_n (pc := 154) (i := 0) (tX11_divides.at 83 rfl) rfl rfl ?_
      refine r_callV (M' := mX11_numbers) (pc := 155) (tX11_divides.at 84 rfl) ml_X11_203 rfl mw_X11_numbers ⟨by decide, by decide⟩ (mH_0) rfl rfl (cN) rfl rfl (Nat.le_of_ble_eq_true rfl) (Nat.le_of_ble_eq_true rfl) (Nat.le_of_ble_eq_true rfl) ?_
      rintro _ _ _ ⟨rfl, rfl, rfl⟩
      refine r_vret (pc := 158) (tX11_divides.at 85 rfl) rfl (Nat.le_of_ble_eq_true rfl) (Nat.le_of_ble_eq_true rfl) ?_
      subst hPo
      exact ⟨rfl, rfl, _, rfl, t2, (c2.nmb hn0 (by omega)).f (fun k _ => dvd_lab hf0 k)⟩
    | succ q ih =>
      intro u S2 o3 o4 o5 o6 hu t2 hF c2
      have hn2 : S2.now < 9 := by rw [c2.2.1]; omega
      have e0 : S2.rw 0 = G.n := by
        rw [c2.2.2.2.1 0 (by omega)]
        unfold lbF
        rw [if_neg (by omega), hf0]
      refine r_iload_n (pc := 126) (i := 2) (tX11_divides.at 68 rfl) rfl rfl ?_
      refine r_aload_n (pc := 127) (i := 0) (tX11_divides.at 69 rfl) rfl rfl ?_
      refine r_callV (M' := mX11_count) (pc := 128) (tX11_divides.at 70 rfl) ml_X11_218 rfl mw_X11_count ⟨by decide, by decide⟩ (mH_0) rfl rfl (c_mCount (S := S2) hn2) rfl rfl (Nat.le_of_ble_eq_true rfl) (Nat.le_of_ble_eq_true rfl) (Nat.le_of_ble_eq_true rfl) ?_
      rintro _ _ _ ⟨rfl, rfl, rfl⟩
      rw [e0]
      refine r_icmp_geN (pc := 131) 154 (tX11_divides.at 71 rfl) (by decide) (by omega) (by omega) (fun c => by omega) (fun _ => ?_)
      refine r_aload_n (pc := 134) (i := 0) (tX11_divides.at 72 rfl) rfl rfl ?_
      refine r_bipush (pc := 135) (w := nI 49) (tX11_divides.at 73 rfl) (by decide) ?_
      refine r_iload_n (pc := 137) (i := 2) (tX11_divides.at 74 rfl) rfl rfl ?_
      first | refine r_iaddN (pc := 138) (tX11_divides.at 75 rfl) ?_ | refine r_iaddZ (pc := 138) (tX11_divides.at 75 rfl) ?_ | refine r_iadd (pc := 138) (tX11_divides.at 75 rfl) ?_
      refine r_aload_n (pc := 139) (i := 0) (tX11_divides.at 76 rfl) rfl rfl ?_
      refine r_get (pc := 140) (tX11_divides.at 77 rfl) gf_X11_45 (mH_0) rfl ?_
      refine r_iload_n (pc := 143) (i := 2) (tX11_divides.at 78 rfl) rfl rfl ?_
      refine r_iald (pc := 144) (tX11_divides.at 79 rfl) (mH_fsh) (u) (rfl) (by omega) (Nat.le_of_ble_eq_true rfl) ?_
      refine r_eq rfl (st2 := [.int (nI (dvL (stw G.W G.B G.n G.b) u)), .int (nI (49 + u)), .ref m]) (by rw [← hF u (by omega)]; rfl) ?_
      refine r_callV (M' := mX11_put) (pc := 145) (tX11_divides.at 80 rfl) ml_X11_200 rfl mw_X11_put ⟨by decide, by decide⟩ (mH_0) rfl rfl (c_mPut (S := S2) (k := 49 + u) (y := dvL (stw G.W G.B G.n G.b) u) hn2 (by omega)) rfl rfl (Nat.le_of_ble_eq_true rfl) (Nat.le_of_ble_eq_true rfl) (Nat.le_of_ble_eq_true rfl) ?_
      rintro _ _ _ ⟨rfl, rfl, rfl⟩
      first | refine r_iincN (pc := 148) (tX11_divides.at 81 rfl) rfl (by decide) ?_ | refine r_iinc (pc := 148) (tX11_divides.at 81 rfl) rfl rfl (by decide) ?_
      refine r_goto (pc := 151) 126 (tX11_divides.at 82 rfl) (by decide) ?_
      refine ih (u + 1) _ _ _ _ _ (by omega) t2 hF ((c2.put hn0 (by omega)).f (fun k hk => ?_))
      unfold upN
      by_cases q3 : k = 49 + u
      · rw [if_pos q3, q3]
        unfold lbF
        rw [if_pos (by omega), show 49 + u - 49 = u by omega]
      · rw [if_neg q3]
        unfold lbF
        by_cases q4 : 49 ≤ k ∧ k < 49 + u
        · rw [if_pos q4, if_pos (by omega)]
        · rw [if_neg q4, if_neg (by omega)]
  have k1 : ∀ q x F o3 o4 o5 o6, x + q = G.n → (∀ k, k < x → F k = dvL (stw G.W G.B G.n G.b) k) → J v mX11_divides (rmOf 5 0 0) (KM v Po noX 0 0) top 0 0 (mH v h m (S.s_fsh F)) top 7 [some (.ref m), some (.int (nI G.b)), some (.int (nI x)), o3, o4, o5, o6] [] := by
    intro q
    induction q with
    | zero =>
      intro x F o3 o4 o5 o6 hx hF
      have hx : x = G.n := by omega
      subst hx
      refine r_iload_n (pc := 7) (i := 2) (tX11_divides.at 5 rfl) rfl rfl ?_
      refine r_aload_n (pc := 8) (i := 0) (tX11_divides.at 6 rfl) rfl rfl ?_
      refine r_callV (M' := mX11_count) (pc := 9) (tX11_divides.at 7 rfl) ml_X11_218 rfl mw_X11_count ⟨by decide, by decide⟩ (mH_0) rfl rfl (c_mCount (S := S.s_fsh F) hg.1) rfl rfl (Nat.le_of_ble_eq_true rfl) (Nat.le_of_ble_eq_true rfl) (Nat.le_of_ble_eq_true rfl) ?_
      rintro _ _ _ ⟨rfl, rfl, rfl⟩
      rw [show (S.s_fsh F).rw 0 = G.n from hg.2.1]
      refine r_icmp_geN (pc := 12) 124 (tX11_divides.at 8 rfl) (by decide) (by omega) (by omega) (fun _ => ?_) (fun c => by omega)
      refine r_iconst (pc := 124) (w := nI 0) (tX11_divides.at 66 rfl) (by decide) ?_
      refine r_istore_n (pc := 125) (i := 2) (tX11_divides.at 67 rfl) rfl (by decide) ?_
      refine k2 G.n 0 (S.s_fsh F) _ _ _ _ (by omega) rfl hF ((c0.scr (S2 := S.s_fsh F) ⟨⟨rfl, rfl, rfl, rfl⟩, rfl, rfl⟩).f (fun k _ => ?_))
      unfold lbF
      rw [if_neg (by omega)]
    | succ q ih =>
      intro x F o3 o4 o5 o6 hx hF
      refine r_iload_n (pc := 7) (i := 2) (tX11_divides.at 5 rfl) rfl rfl ?_
      refine r_aload_n (pc := 8) (i := 0) (tX11_divides.at 6 rfl) rfl rfl ?_
      refine r_callV (M' := mX11_count) (pc := 9) (tX11_divides.at 7 rfl) ml_X11_218 rfl mw_X11_count ⟨by decide, by decide⟩ (mH_0) rfl rfl (c_mCount (S := S.s_fsh F) hg.1) rfl rfl (Nat.le_of_ble_eq_true rfl) (Nat.le_of_ble_eq_true rfl) (Nat.le_of_ble_eq_true rfl) ?_
      rintro _ _ _ ⟨rfl, rfl, rfl⟩
      rw [show (S.s_fsh F).rw 0 = G.n from hg.2.1]
      refine r_icmp_geN (pc := 12) 124 (tX11_divides.at 8 rfl) (by decide) (by omega) (by omega) (fun c => by omega) (fun _ => ?_)
      refine r_iload_n (pc := 15) (i := 2) (tX11_divides.at 9 rfl) rfl rfl ?_
      refine r_istore_n (pc := 16) (i := 3) (tX11_divides.at 10 rfl) rfl (by decide) ?_
      refine r_iload_n (pc := 17) (i := 2) (tX11_divides.at 11 rfl) rfl rfl ?_
      refine r_iconst (pc := 18) (w := zI 1) (tX11_divides.at 12 rfl) (by decide) ?_
      refine r_eq rfl (st2 := [.int (zI 1), .int (zI (x : Nat))]) (by rw [zI_nat]) ?_
      refine r_isubZ (pc := 19) (tX11_divides.at 13 rfl) ?_
      refine r_istore (pc := 20) (i := 4) (tX11_divides.at 14 rfl) (by decide) ?_
      have k3 : ∀ u its o5 o6, u ≤ x → u ≤ its → its ≤ x → (∀ w, u ≤ w → w < its → stw G.W G.B G.n G.b w x = false) → (its = x ∨ stw G.W G.B G.n G.b its x = true) → J v mX11_divides (rmOf 5 0 0) (KM v Po noX 0 0) top 0 0 (mH v h m (S.s_fsh F)) top 22 [some (.ref m), some (.int (nI G.b)), some (.int (nI x)), some (.int (nI its)), some (.int (zI ((u : Nat) - 1 : Int))), o5, o6] [] := by
        intro u
        induction u with
        | zero =>
          intro its o5 o6 hu hui hix hw hit
          refine r_iload (pc := 22) (i := 4) (tX11_divides.at 15 rfl) rfl ?_
          refine r_if_ltZ (pc := 24) 111 (tX11_divides.at 16 rfl) (by decide) ⟨by omega, by omega⟩ (fun _ => ?_) (fun z => by omega)
          have e : its = dvL (stw G.W G.B G.n G.b) x := (fstN_is hix (fun j hj => hw j (by omega) hj) hit).symm
          refine r_aload_n (pc := 111) (i := 0) (tX11_divides.at 59 rfl) rfl rfl ?_
          refine r_get (pc := 112) (tX11_divides.at 60 rfl) gf_X11_45 (mH_0) rfl ?_
          refine r_iload_n (pc := 115) (i := 2) (tX11_divides.at 61 rfl) rfl rfl ?_
          refine r_iload_n (pc := 116) (i := 3) (tX11_divides.at 62 rfl) rfl rfl ?_
          refine r_iast (pc := 117) (tX11_divides.at 63 rfl) (mH_fsh) (x) (rfl) (by omega) (Nat.le_of_ble_eq_true rfl) ?_
          rw [show iF (S.s_fsh F).fsh = iF F from rfl, upd_iF, mH_sfsh]
          refine r_eq (h2 := mH v h m (S.s_fsh (upN F x its))) rfl rfl ?_
          first | refine r_iincN (pc := 118) (tX11_divides.at 64 rfl) rfl (by decide) ?_ | refine r_iinc (pc := 118) (tX11_divides.at 64 rfl) rfl rfl (by decide) ?_
          refine r_goto (pc := 121) 7 (tX11_divides.at 65 rfl) (by decide) ?_
          refine ih (x + 1) _ _ _ _ _ (by omega) (fun k hk => ?_)
          by_cases c : k = x
          · rw [c, upN_eq, e]
          · rw [upN_ne _ _ c]
            exact hF k (by omega)
        | succ u ihu =>
          intro its o5 o6 hu hui hix hw hit
          have hBu := hB u (by omega)
          have hBx := hB x (by omega)
          refine r_ls [some (.ref m), some (.int (nI G.b)), some (.int (nI x)), some (.int (nI its)), some (.int (nI u)), o5, o6] (by rw [← zI_nat u, show ((u + 1 : Nat) : Int) - 1 = (u : Nat) by omega]) ?_
          refine r_iload (pc := 22) (i := 4) (tX11_divides.at 15 rfl) rfl ?_
          refine r_if_ltN (pc := 24) 111 (tX11_divides.at 16 rfl) (by decide) (by omega) ?_
          -- behind the comparisons
          have tail : ∀ b o6, b = stw G.W G.B G.n G.b u x → J v mX11_divides (rmOf 5 0 0) (KM v Po noX 0 0) top 0 0 (mH v h m (S.s_fsh F)) top 93 [some (.ref m), some (.int (nI G.b)), some (.int (nI x)), some (.int (nI its)), some (.int (nI u)), some (.int (nI (Bool.toNat b))), o6] [] := by
            intro b o6 hb
            have fin : ∀ y o5, (y = if b = true then u else its) → J v mX11_divides (rmOf 5 0 0) (KM v Po noX 0 0) top 0 0 (mH v h m (S.s_fsh F)) top 104 [some (.ref m), some (.int (nI G.b)), some (.int (nI x)), some (.int (nI its)), some (.int (nI u)), o5, o6] [.int (nI y)] := by
              intro y o5 hy
              refine r_istore_n (pc := 104) (i := 3) (tX11_divides.at 56 rfl) rfl (by decide) ?_
              refine r_iinc (pc := 105) (tX11_divides.at 57 rfl) rfl (show nI u + Int32.ofInt (-1) = zI ((u : Nat) - 1 : Int) by rw [← zI_nat u, show Int32.ofInt (-1) = zI (-1) from rfl, zI_add]; rfl) (by decide) ?_
              refine r_goto (pc := 108) 22 (tX11_divides.at 58 rfl) (by decide) ?_
              cases b with
              | true =>
                rw [if_pos rfl] at hy
                subst hy
                exact ihu y _ _ (by omega) (Nat.le_refl _) (by omega) (fun w h1 h2 => by omega) (Or.inr hb.symm)
              | false =>
                rw [if_neg (by simp)] at hy
                subst hy
                refine ihu y _ _ (by omega) (by omega) hix (fun w h1 h2 => ?_) hit
                by_cases c : w = u
                · rw [c]; exact hb.symm
                · exact hw w (by omega) h2
            refine r_iload (pc := 93) (i := 5) (tX11_divides.at 51 rfl) rfl ?_
            cases b with
            | true =>
              rw [Bool.toNat_true]
              refine r_if_eqN (pc := 95) 103 (tX11_divides.at 52 rfl) (by decide) (by omega) (fun c => by omega) (fun _ => ?_)
              refine r_iload (pc := 98) (i := 4) (tX11_divides.at 53 rfl) rfl ?_
              refine r_goto (pc := 100) 104 (tX11_divides.at 54 rfl) (by decide) ?_
              exact fin u _ rfl
            | false =>
              rw [Bool.toNat_false]
              refine r_if_eqN (pc := 95) 103 (tX11_divides.at 52 rfl) (by decide) (by omega) (fun _ => ?_) (fun c => by omega)
              refine r_iload_n (pc := 103) (i := 3) (tX11_divides.at 55 rfl) rfl rfl ?_
              exact fin its _ rfl
          have inner : ∀ q d (s : Bool), d + q = G.b → (s = true ↔ G.B u = G.B x ∧ ∀ j, j < d → dfB G.W G.B G.n u x j = false) → J v mX11_divides (rmOf 5 0 0) (KM v Po noX 0 0) top 0 0 (mH v h m (S.s_fsh F)) top 57 [some (.ref m), some (.int (nI G.b)), some (.int (nI x)), some (.int (nI its)), some (.int (nI u)), some (.int (nI (Bool.toNat s))), some (.int (nI d))] [] := by
            intro q
            induction q with
            | zero =>
              intro d s hd hs
              have hd : d = G.b := by omega
              refine r_iload (pc := 57) (i := 6) (tX11_divides.at 34 rfl) rfl ?_
              refine r_iload_n (pc := 59) (i := 1) (tX11_divides.at 35 rfl) rfl rfl ?_
              refine r_icmp_geN (pc := 60) 93 (tX11_divides.at 36 rfl) (by decide) (by omega) (by omega) (fun _ => ?_) (fun c => by omega)
              refine tail s _ ?_
              subst hd
              cases s with
              | true =>
                obtain ⟨g1, g2⟩ := hs.mp rfl
                have : fdN G.W G.B G.n G.b u x = G.b := fstN_is (Nat.le_refl _) g2 (Or.inl rfl)
                unfold stw
                rw [this]
                simp [g1]
              | false =>
                cases q2 : stw G.W G.B G.n G.b u x with
                | false => rfl
                | true =>
                  obtain ⟨g1, g2⟩ := stw_iff.mp q2
                  have := hs.mpr ⟨g1, fun j hj => by
                    cases q3 : dfB G.W G.B G.n u x j with
                    | false => rfl
                    | true =>
                      obtain ⟨u1, u2⟩ := dfB_t.mp q3
                      exact absurd (g2 j hj u1) u2⟩
                  cases this
            | succ q ihq =>
              intro d s hd hs
              refine r_iload (pc := 57) (i := 6) (tX11_divides.at 34 rfl) rfl ?_
              refine r_iload_n (pc := 59) (i := 1) (tX11_divides.at 35 rfl) rfl rfl ?_
              refine r_icmp_geN (pc := 60) 93 (tX11_divides.at 36 rfl) (by decide) (by omega) (by omega) (fun c => by omega) (fun _ => ?_)
              refine r_iload (pc := 63) (i := 5) (tX11_divides.at 37 rfl) rfl ?_
              cases s with
              | false =>
                rw [Bool.toNat_false]
                refine r_if_eqN (pc := 65) 93 (tX11_divides.at 38 rfl) (by decide) (by omega) (fun _ => ?_) (fun c => by omega)
                refine tail false _ ?_
                cases q2 : stw G.W G.B G.n G.b u x with
                | false => rfl
                | true =>
                  obtain ⟨g1, g2⟩ := stw_iff.mp q2
                  have := hs.mpr ⟨g1, fun j hj => by
                    cases q3 : dfB G.W G.B G.n u x j with
                    | false => rfl
                    | true =>
                      obtain ⟨u1, u2⟩ := dfB_t.mp q3
                      exact absurd (g2 j (by omega) u1) u2⟩
                  cases this
              | true =>
                obtain ⟨g1, g2⟩ := hs.mp rfl
                rw [Bool.toNat_true]
                refine r_if_eqN (pc := 65) 93 (tX11_divides.at 38 rfl) (by decide) (by omega) (fun c => by omega) (fun _ => ?_)
                refine r_aload_n (pc := 68) (i := 0) (tX11_divides.at 39 rfl) rfl rfl ?_
                refine r_iload (pc := 69) (i := 4) (tX11_divides.at 40 rfl) rfl ?_
                refine r_iload_n (pc := 71) (i := 2) (tX11_divides.at 41 rfl) rfl rfl ?_
                refine r_iload (pc := 72) (i := 6) (tX11_divides.at 42 rfl) rfl ?_
                refine r_callV (M' := mX11_areUnlike) (pc := 74) (tX11_divides.at 43 rfl) ml_X11_310 rfl mw_X11_areUnlike ⟨by decide, by decide⟩ (mH_0) rfl rfl (c_mUnl (S := S.s_fsh F) hg hl h6 (show u < G.n by omega) (show x < G.n by omega) (show d ≤ 100 by omega) hB hW) rfl rfl (Nat.le_of_ble_eq_true rfl) (Nat.le_of_ble_eq_true rfl) (Nat.le_of_ble_eq_true rfl) ?_
                rintro _ _ _ ⟨rfl, rfl, rfl⟩
                rw [unl_df g1]
                cases q3 : dfB G.W G.B G.n u x d with
                | true =>
                  rw [Bool.toNat_true]
                  refine r_if_neN (pc := 77) 84 (tX11_divides.at 44 rfl) (by decide) (by omega) (fun _ => ?_) (fun c => by omega)
                  refine r_iconst (pc := 84) (w := nI (Bool.toNat false)) (tX11_divides.at 47 rfl) (by decide) ?_
                  refine r_istore (pc := 85) (i := 5) (tX11_divides.at 48 rfl) (by decide) ?_
                  first | refine r_iincN (pc := 87) (tX11_divides.at 49 rfl) rfl (by decide) ?_ | refine r_iinc (pc := 87) (tX11_divides.at 49 rfl) rfl rfl (by decide) ?_
                  refine r_goto (pc := 90) 57 (tX11_divides.at 50 rfl) (by decide) ?_
                  refine ihq (d + 1) false (by omega) ⟨(fun z => by cases z), fun z => ?_⟩
                  have := z.2 d (by omega)
                  rw [q3] at this
                  cases this
                | false =>
                  rw [Bool.toNat_false]
                  refine r_if_neN (pc := 77) 84 (tX11_divides.at 44 rfl) (by decide) (by omega) (fun c => by omega) (fun _ => ?_)
                  refine r_iconst (pc := 80) (w := nI (Bool.toNat true)) (tX11_divides.at 45 rfl) (by decide) ?_
                  refine r_goto (pc := 81) 85 (tX11_divides.at 46 rfl) (by decide) ?_
                  refine r_istore (pc := 85) (i := 5) (tX11_divides.at 48 rfl) (by decide) ?_
                  first | refine r_iincN (pc := 87) (tX11_divides.at 49 rfl) rfl (by decide) ?_ | refine r_iinc (pc := 87) (tX11_divides.at 49 rfl) rfl rfl (by decide) ?_
                  refine r_goto (pc := 90) 57 (tX11_divides.at 50 rfl) (by decide) ?_
                  refine ihq (d + 1) true (by omega) ⟨fun _ => ⟨g1, fun j hj => ?_⟩, fun _ => rfl⟩
                  by_cases c : j = d
                  · rw [c]; exact q3
                  · exact g2 j (by omega)
          refine r_aload_n (pc := 27) (i := 0) (tX11_divides.at 17 rfl) rfl rfl ?_
          refine r_bipush (pc := 28) (w := nI 49) (tX11_divides.at 18 rfl) (by decide) ?_
          refine r_iload (pc := 30) (i := 4) (tX11_divides.at 19 rfl) rfl ?_
          first | refine r_iaddN (pc := 32) (tX11_divides.at 20 rfl) ?_ | refine r_iaddZ (pc := 32) (tX11_divides.at 20 rfl) ?_ | refine r_iadd (pc := 32) (tX11_divides.at 20 rfl) ?_
          refine r_callV (M' := mX11_get) (pc := 33) (tX11_divides.at 21 rfl) ml_X11_61 rfl mw_X11_get ⟨by decide, by decide⟩ (mH_0) rfl rfl (c_mGet (S := S.s_fsh F) (k := 49 + u) hg.1 (by omega)) rfl rfl (Nat.le_of_ble_eq_true rfl) (Nat.le_of_ble_eq_true rfl) (Nat.le_of_ble_eq_true rfl) ?_
          rintro _ _ _ ⟨rfl, rfl, rfl⟩
          refine r_aload_n (pc := 36) (i := 0) (tX11_divides.at 22 rfl) rfl rfl ?_
          refine r_bipush (pc := 37) (w := nI 49) (tX11_divides.at 23 rfl) (by decide) ?_
          refine r_iload_n (pc := 39) (i := 2) (tX11_divides.at 24 rfl) rfl rfl ?_
          first | refine r_iaddN (pc := 40) (tX11_divides.at 25 rfl) ?_ | refine r_iaddZ (pc := 40) (tX11_divides.at 25 rfl) ?_ | refine r_iadd (pc := 40) (tX11_divides.at 25 rfl) ?_
          refine r_callV (M' := mX11_get) (pc := 41) (tX11_divides.at 26 rfl) ml_X11_61 rfl mw_X11_get ⟨by decide, by decide⟩ (mH_0) rfl rfl (c_mGet (S := S.s_fsh F) (k := 49 + x) hg.1 (by omega)) rfl rfl (Nat.le_of_ble_eq_true rfl) (Nat.le_of_ble_eq_true rfl) (Nat.le_of_ble_eq_true rfl) ?_
          rintro _ _ _ ⟨rfl, rfl, rfl⟩
          rw [show (S.s_fsh F).rw (49 + u) = G.B u from hg.lab (by omega), show (S.s_fsh F).rw (49 + x) = G.B x from hg.lab (by omega)]
          refine r_icmp_neN (pc := 44) 51 (tX11_divides.at 27 rfl) (by decide) (by omega) (by omega) (fun c => ?_) (fun c => ?_)
          · refine r_iconst (pc := 51) (w := nI (Bool.toNat false)) (tX11_divides.at 30 rfl) (by decide) ?_
            refine r_istore (pc := 52) (i := 5) (tX11_divides.at 31 rfl) (by decide) ?_
            refine r_iconst (pc := 54) (w := nI 0) (tX11_divides.at 32 rfl) (by decide) ?_
            refine r_istore (pc := 55) (i := 6) (tX11_divides.at 33 rfl) (by decide) ?_
            exact inner G.b 0 false (by omega) ⟨(fun z => by cases z), fun z => absurd z.1 c⟩
          · refine r_iconst (pc := 47) (w := nI (Bool.toNat true)) (tX11_divides.at 28 rfl) (by decide) ?_
            refine r_goto (pc := 48) 52 (tX11_divides.at 29 rfl) (by decide) ?_
            refine r_istore (pc := 52) (i := 5) (tX11_divides.at 31 rfl) (by decide) ?_
            refine r_iconst (pc := 54) (w := nI 0) (tX11_divides.at 32 rfl) (by decide) ?_
            refine r_istore (pc := 55) (i := 6) (tX11_divides.at 33 rfl) (by decide) ?_
            exact inner G.b 0 true (by omega) ⟨fun _ => ⟨c, fun j hj => by omega⟩, fun _ => rfl⟩
      exact k3 x x _ _ (Nat.le_refl _) (Nat.le_refl _) (Nat.le_refl _) (fun w h1 h2 => by omega) (Or.inl rfl)
  exact k1 G.n 0 S.fsh _ _ _ _ (by omega) (fun k hk => by omega)
theorem c_mRefine (hr : RW S G cn cc) (hu : S.und ≤ 8) (hc : canB G) : Cal v mX11_refine 6 0 0 [.ref m] (mH v h m S) top (pCg v h m S top (.int (nI (GT.rfn 6 G).b)) 0 (lbF S.rw G.n (GT.rfn 6 G).B)) noX := by
  have h6 := hr.2.1.1.1
  have hg := hr.1
  refine Cal.ofJ (by decide +kernel) rfl (Nat.le_of_ble_eq_true rfl) fun hz0 => ?_
  refine r_ls [some (.ref m)] rfl ?_
  generalize hPo : pCg v h m S top (.int (nI (GT.rfn 6 G).b)) 0 (lbF S.rw G.n (GT.rfn 6 G).B) = Po
  refine r_aload_n (pc := 0) (i := 0) (tX11_refine.at 0 rfl) rfl rfl ?_
  refine r_iconst (pc := 1) (w := nI 0) (tX11_refine.at 1 rfl) (by decide) ?_
  refine r_put (pc := 2) (tX11_refine.at 2 rfl) pf_X11_55 (mH_0) (Nat.le_of_ble_eq_true rfl) (rfl) (rfl) ?_
  refine r_eq (h2 := mH v h m (S.s_thr 0)) (mH_p0 (S' := S.s_thr 0) rfl) rfl ?_
  have k1 := chd_chg hg.1 (per0 S 0)
  refine r_aload_n (pc := 5) (i := 0) (tX11_refine.at 3 rfl) rfl rfl ?_
  refine r_callV (M' := mX11_change) (pc := 6) (tX11_refine.at 4 rfl) ml_X11_197 rfl mw_X11_change ⟨by decide, by decide⟩ (mH_0) rfl rfl (c_mChange (S := S.s_thr 0) hg.1 hu) rfl rfl (Nat.le_of_ble_eq_true rfl) (Nat.le_of_ble_eq_true rfl) (Nat.le_of_ble_eq_true rfl) ?_
  rintro _ _ _ ⟨rfl, rfl, rfl⟩
  have key : ∀ f G' S2, 7 ≤ G'.b + f → GT.rfn f G' = GT.rfn 6 G → canB G' → S2.thr = 0 → (G'.n = G.n ∧ G'.e = G.e ∧ G'.a = G.a ∧ G'.L = G.L ∧ G'.H = G.H ∧ G'.W = G.W) → okG G' → chd S S2 (lbF S.rw G.n G'.B) → RW S2 G' cn cc → J v mX11_refine (rmOf 6 0 0) (KM v Po noX 0 0) top 0 0 (mH v h m S2) top 9 [some (.ref m)] [] := by
    intro f
    induction f with
    | zero =>
      intro G' S2 hf hrf hc' t2 e ok c2 r2
      have := hc'.b6 (by rw [e.1]; exact h6)
      omega
    | succ f ih =>
      intro G' S2 hf hrf hc' t2 e ok c2 r2
      have hn' : G'.n ≤ 6 := by rw [e.1]; exact h6
      have hB : ∀ k, k < G'.n → G'.B k ≤ 6 := fun k hk => ok.2.2.2.1 k (by omega)
      obtain ⟨b1, b2⟩ := pt_b2 (G := G') hn' (hc'.b6 hn')
      refine r_aload_n (pc := 9) (i := 0) (tX11_refine.at 5 rfl) rfl rfl ?_
      refine r_callV (M' := mX11_firstParted) (pc := 10) (tX11_refine.at 6 rfl) ml_X11_314 rfl mw_X11_firstParted ⟨by decide, by decide⟩ (mH_0) rfl rfl ((c_mParted r2 hc'.bk)) rfl rfl (Nat.le_of_ble_eq_true rfl) (Nat.le_of_ble_eq_true rfl) (Nat.le_of_ble_eq_true rfl) ?_
      rintro _ _ _ ⟨rfl, rfl, S3, rfl, p3, t3, l3⟩
      have r3 := p3.RW r2
      have c3 := c2.scr p3
      have b3 := ptN_1 (G := G')
      refine r_iconst (pc := 13) (w := zI (-1)) (tX11_refine.at 7 rfl) (by decide) ?_
      rw [GT.rfn] at hrf
      by_cases c : ptB G' = true
      · have hne : ptN G'.W G'.B G'.n G'.b ≠ -1 := fun z => by
          rw [b3.mp z] at c
          cases c
        rw [if_pos c] at hrf
        generalize ptN G'.W G'.B G'.n G'.b = zz at *
        refine r_icmp_eqZ (pc := 14) 24 (tX11_refine.at 8 rfl) (by decide) ⟨by omega, by omega⟩ ⟨by omega, by omega⟩ (fun c => by omega) (fun _ => ?_)
        refine r_aload_n (pc := 17) (i := 0) (tX11_refine.at 9 rfl) rfl rfl ?_
        refine r_callV (M' := mX11_divides) (pc := 18) (tX11_refine.at 10 rfl) ml_X11_342 rfl mw_X11_divides ⟨by decide, by decide⟩ (mH_0) rfl rfl ((c_mDivs hg.1 c3 r3 l3 hc')) rfl rfl (Nat.le_of_ble_eq_true rfl) (Nat.le_of_ble_eq_true rfl) (Nat.le_of_ble_eq_true rfl) ?_
        rintro _ _ _ ⟨rfl, rfl, S4, rfl, t4, c4⟩
        refine r_goto (pc := 21) 9 (tX11_refine.at 11 rfl) (by decide) ?_
        have hm := dvd_more hc' c
        have c5 : chd S S4 (lbF S.rw G.n G'.dvd.B) := c4.f (fun k hk => by
          unfold lbF
          rw [e.1]
          by_cases q : 49 ≤ k ∧ k < 49 + G.n
          · rw [if_pos q, if_pos q]
          · rw [if_neg q, if_neg q, if_neg q])
        have hn4 : S4.now < 9 := by rw [c5.2.1]; omega
        refine ih G'.dvd S4 (by omega) hrf dvd_can (by rw [t4, t3, t2]) e (dvd_ok ok) c5 (RW.row (G' := G'.dvd) hn4 r3 (fun k hk hkk => ?_) (fun k hk => ?_) ⟨rfl, rfl, rfl, rfl, rfl, rfl⟩ (dvd_ok ok))
        · rw [c5.2.2.2.1 k hk, c3.2.2.2.1 k hk]
          unfold lbF
          rw [if_neg (by omega), if_neg (by omega)]
        · rw [e.1] at hk
          rw [c5.2.2.2.1 (49 + k) (by omega)]
          unfold lbF
          rw [if_pos (by omega), show 49 + k - 49 = k by omega]
      · have hne : ptN G'.W G'.B G'.n G'.b = -1 := b3.mpr (by cases q : ptB G' <;> simp_all)
        rw [if_neg c] at hrf
        rw [hne]
        refine r_icmp_eqZ (pc := 14) 24 (tX11_refine.at 8 rfl) (by decide) ⟨by omega, by omega⟩ ⟨by omega, by omega⟩ (fun _ => ?_) (fun c => by omega)
        refine r_aload_n (pc := 24) (i := 0) (tX11_refine.at 12 rfl) rfl rfl ?_
        refine r_callV (M' := mX11_blocksNow) (pc := 25) (tX11_refine.at 13 rfl) ml_X11_307 rfl mw_X11_blocksNow ⟨by decide, by decide⟩ (mH_0) rfl rfl (c_mBlk (p3.rwG r2.1) hn' hB) rfl rfl (Nat.le_of_ble_eq_true rfl) (Nat.le_of_ble_eq_true rfl) (Nat.le_of_ble_eq_true rfl) ?_
        rintro _ _ _ ⟨rfl, rfl, rfl⟩
        rw [hc'.bk]
        refine r_iret (pc := 28) (tX11_refine.at 14 rfl) rfl (Nat.le_of_ble_eq_true rfl) (Nat.le_of_ble_eq_true rfl) ?_
        subst hPo
        rw [← hrf]
        exact ⟨rfl, rfl, S3, rfl, by rw [t3, t2], fun q => absurd rfl q, fun _ => c3⟩
  have hlb : ∀ k, k < 1240 → S.rw k = lbF S.rw G.n G.B k := fun k hk => by
    unfold lbF
    by_cases q : 49 ≤ k ∧ k < 49 + G.n
    · rw [if_pos q, ← hg.lab (show k - 49 < G.n by omega), show 49 + (k - 49) = k by omega]
    · rw [if_neg q]
  have hn1 : (S.s_thr 0).chg.now < 9 := by rw [k1.2.1]; omega
  exact key 7 G (S.s_thr 0).chg (by omega) (by
    by_cases q : 7 ≤ G.b + 6
    · exact rfn_stop 6 G h6 hc q 1
    · have hb0 : G.b = 0 := by omega
      have hn : G.n = 0 := by
        rcases Nat.eq_zero_or_pos G.n with z | z
        · exact z
        · have := hc.lt 0 z
          omega
      have hp : ptB G = false := by
        unfold ptB
        rw [hn]
        rfl
      have e1 : ∀ f, GT.rfn f G = G := fun f => by
        cases f with
        | zero => rfl
        | succ f => rw [GT.rfn, if_neg (by rw [hp]; simp)]
      rw [e1, e1]) hc rfl ⟨rfl, rfl, rfl, rfl, rfl, rfl⟩ hr.2.1.1 (k1.f hlb) (RW.row (G' := G) hn1 hr (fun k hk _ => k1.2.2.2.1 k hk) (fun k hk => (k1.2.2.2.1 (49 + k) (by omega)).trans (hg.lab hk)) ⟨rfl, rfl, rfl, rfl, rfl, rfl⟩ hr.2.1.1)
end

