/-! ===== the reference: begins, meanTo ===== -/
section
variable {v : Ev} {h : Hp} {top m : Nat} {S : MS} {G : GT} {cn : Nat} {cc : Nat → Int}
def MS.bg (S : MS) (P M : Nat → Int) (u : Nat) : MS := ((S.s_pls P).s_mtx M).s_unk u
theorem pel_bg (S : MS) (P M : Nat → Int) (u : Nat) : pel S (S.bg P M u) := ⟨⟨⟨rfl, rfl, rfl, rfl⟩, rfl, rfl⟩, rfl, rfl, rfl, rfl⟩
def pBg (v : Ev) (h : Hp) (m : Nat) (S : MS) (top : Nat) (G : GT) (p : Nat → Bool) : Option Value → Hp → Nat → Prop := fun r h' top' => r = none ∧ top = top' ∧ ∃ S', h' = mH v h m S' ∧ pel S S' ∧ mtS S' G.W G.n p (fun _ => 0)
theorem c_mBegins {A T : Nat} (hg : rwG S G) (hl : lad S G cn cc) (hn : G.n ≤ 6) (hA : A < 64) (hT : T < 64) (hW : ∀ k, k < 36 → G.W k ≤ 9) : Cal v mX11_begins 3 0 0 [.ref m, .int (nI A), .int (nI T)] (mH v h m S) top (pBg v h m S top G (unP A T)) noX := by
  have al := fun x => asc_le (unP A T) x
  refine Cal.ofJ (by decide +kernel) rfl (Nat.le_of_ble_eq_true rfl) fun hz0 => ?_
  refine r_ls [some (.ref m), some (.int (nI A)), some (.int (nI T)), none, none] rfl ?_
  generalize hPo : pBg v h m S top G (unP A T) = Po
  have ho : ∀ P M u, (S.bg P M u).rw 0 = G.n := fun P M u => hg.2.1
  -- the matrix's rows
  have k3 : ∀ k x P M o4, x + k = G.n → (∀ y, y < G.n → P y = if unP A T y = true then ((ascL (unP A T) y).length : Int) else -1) → (∀ i, i < 6 → M (7 * i + 6) = 0) → (∀ y z, y < x → z < G.n → unP A T y = true → unP A T z = true → M (7 * (ascL (unP A T) y).length + (ascL (unP A T) z).length) = lpl G.W G.n y z) → J v mX11_begins (rmOf 3 0 0) (KM v Po noX 0 0) top 0 0 (mH v h m (S.bg P M (ascL (unP A T) G.n).length)) top 90 [some (.ref m), some (.int (nI A)), some (.int (nI T)), some (.int (nI x)), o4] [] := by
    intro k
    induction k with
    | zero =>
      intro x P M o4 hx hP h0 hM
      have hx : x = G.n := by omega
      subst hx
      refine r_iload_n (pc := 90) (i := 3) (tX11_begins.at 51 rfl) rfl rfl ?_
      refine r_aload_n (pc := 91) (i := 0) (tX11_begins.at 52 rfl) rfl rfl ?_
      refine r_callV (M' := mX11_count) (pc := 92) (tX11_begins.at 53 rfl) ml_X11_218 rfl mw_X11_count ⟨by decide, by decide⟩ (mH_0) rfl rfl (c_mCount (S := S.bg P M _) hg.1) rfl rfl (Nat.le_of_ble_eq_true rfl) (Nat.le_of_ble_eq_true rfl) (Nat.le_of_ble_eq_true rfl) ?_
      rintro _ _ _ ⟨rfl, rfl, rfl⟩
      rw [ho]
      refine r_icmp_geN (pc := 95) 198 (tX11_begins.at 54 rfl) (by decide) (by omega) (by omega) (fun _ => ?_) (fun c => by omega)
      refine r_vret (pc := 198) (tX11_begins.at 111 rfl) rfl (Nat.le_of_ble_eq_true rfl) (Nat.le_of_ble_eq_true rfl) ?_
      subst hPo
      exact ⟨rfl, rfl, _, rfl, pel_bg _ _ _ _, rfl, hP, fun y z hy hz => hM y z hy hz, fun y hy _ => h0 _ (by have := al y; omega)⟩
    | succ k ih =>
      intro x P M o4 hx hP h0 hM
      have hPx := hP x (by omega)
      have hax := al x
      refine r_iload_n (pc := 90) (i := 3) (tX11_begins.at 51 rfl) rfl rfl ?_
      refine r_aload_n (pc := 91) (i := 0) (tX11_begins.at 52 rfl) rfl rfl ?_
      refine r_callV (M' := mX11_count) (pc := 92) (tX11_begins.at 53 rfl) ml_X11_218 rfl mw_X11_count ⟨by decide, by decide⟩ (mH_0) rfl rfl (c_mCount (S := S.bg P M _) hg.1) rfl rfl (Nat.le_of_ble_eq_true rfl) (Nat.le_of_ble_eq_true rfl) (Nat.le_of_ble_eq_true rfl) ?_
      rintro _ _ _ ⟨rfl, rfl, rfl⟩
      rw [ho]
      refine r_icmp_geN (pc := 95) 198 (tX11_begins.at 54 rfl) (by decide) (by omega) (by omega) (fun c => by omega) (fun _ => ?_)
      refine r_aload_n (pc := 98) (i := 0) (tX11_begins.at 55 rfl) rfl rfl ?_
      refine r_get (pc := 99) (tX11_begins.at 56 rfl) gf_X11_42 (mH_0) rfl ?_
      refine r_iload_n (pc := 102) (i := 3) (tX11_begins.at 57 rfl) rfl rfl ?_
      refine r_iald (pc := 103) (tX11_begins.at 58 rfl) (mH_pls) (x) (rfl) (by omega) (Nat.le_of_ble_eq_true rfl) ?_
      refine r_eq rfl (st2 := [.int (zI (P x))]) rfl ?_
      rw [hPx]
      refine r_iconst (pc := 104) (w := zI (-1)) (tX11_begins.at 59 rfl) (by decide) ?_
      by_cases c : unP A T x = true
      · rw [if_pos c] at hPx ⊢
        refine r_icmp_neZ (pc := 105) 111 (tX11_begins.at 60 rfl) (by decide) ⟨by omega, by omega⟩ ⟨by omega, by omega⟩ (fun _ => ?_) (fun c => by omega)
        refine r_iconst (pc := 111) (w := nI 0) (tX11_begins.at 62 rfl) (by decide) ?_
        refine r_istore (pc := 112) (i := 4) (tX11_begins.at 63 rfl) (by decide) ?_
        have k4 : ∀ k y M, y + k = G.n → (∀ i, i < 6 → M (7 * i + 6) = 0) → (∀ w z, w < x + 1 → z < G.n → (w < x ∨ z < y) → unP A T w = true → unP A T z = true → M (7 * (ascL (unP A T) w).length + (ascL (unP A T) z).length) = lpl G.W G.n w z) → J v mX11_begins (rmOf 3 0 0) (KM v Po noX 0 0) top 0 0 (mH v h m (S.bg P M (ascL (unP A T) G.n).length)) top 114 [some (.ref m), some (.int (nI A)), some (.int (nI T)), some (.int (nI x)), some (.int (nI y))] [] := by
          intro k
          induction k with
          | zero =>
            intro y M hy h0 hM
            have hy : y = G.n := by omega
            subst hy
            refine r_iload (pc := 114) (i := 4) (tX11_begins.at 64 rfl) rfl ?_
            refine r_aload_n (pc := 116) (i := 0) (tX11_begins.at 65 rfl) rfl rfl ?_
            refine r_callV (M' := mX11_count) (pc := 117) (tX11_begins.at 66 rfl) ml_X11_218 rfl mw_X11_count ⟨by decide, by decide⟩ (mH_0) rfl rfl (c_mCount (S := S.bg P M _) hg.1) rfl rfl (Nat.le_of_ble_eq_true rfl) (Nat.le_of_ble_eq_true rfl) (Nat.le_of_ble_eq_true rfl) ?_
            rintro _ _ _ ⟨rfl, rfl, rfl⟩
            rw [ho]
            refine r_icmp_geN (pc := 120) 192 (tX11_begins.at 67 rfl) (by decide) (by omega) (by omega) (fun _ => ?_) (fun c => by omega)
            first | refine r_iincN (pc := 192) (tX11_begins.at 109 rfl) rfl (by decide) ?_ | refine r_iinc (pc := 192) (tX11_begins.at 109 rfl) rfl rfl (by decide) ?_
            refine r_goto (pc := 195) 90 (tX11_begins.at 110 rfl) (by decide) ?_
            exact ih (x + 1) P M _ (by omega) hP h0 (fun w z hw hz => hM w z hw hz (by omega))
          | succ k ih2 =>
            intro y M hy h0 hM
            have hPy := hP y (by omega)
            have hay := al y
            refine r_iload (pc := 114) (i := 4) (tX11_begins.at 64 rfl) rfl ?_
            refine r_aload_n (pc := 116) (i := 0) (tX11_begins.at 65 rfl) rfl rfl ?_
            refine r_callV (M' := mX11_count) (pc := 117) (tX11_begins.at 66 rfl) ml_X11_218 rfl mw_X11_count ⟨by decide, by decide⟩ (mH_0) rfl rfl (c_mCount (S := S.bg P M _) hg.1) rfl rfl (Nat.le_of_ble_eq_true rfl) (Nat.le_of_ble_eq_true rfl) (Nat.le_of_ble_eq_true rfl) ?_
            rintro _ _ _ ⟨rfl, rfl, rfl⟩
            rw [ho]
            refine r_icmp_geN (pc := 120) 192 (tX11_begins.at 67 rfl) (by decide) (by omega) (by omega) (fun c => by omega) (fun _ => ?_)
            refine r_aload_n (pc := 123) (i := 0) (tX11_begins.at 68 rfl) rfl rfl ?_
            refine r_get (pc := 124) (tX11_begins.at 69 rfl) gf_X11_42 (mH_0) rfl ?_
            refine r_iload (pc := 127) (i := 4) (tX11_begins.at 70 rfl) rfl ?_
            refine r_iald (pc := 129) (tX11_begins.at 71 rfl) (mH_pls) (y) (rfl) (by omega) (Nat.le_of_ble_eq_true rfl) ?_
            refine r_eq rfl (st2 := [.int (zI (P y))]) rfl ?_
            rw [hPy]
            refine r_iconst (pc := 130) (w := zI (-1)) (tX11_begins.at 72 rfl) (by decide) ?_
            by_cases c2 : unP A T y = true
            · rw [if_pos c2] at hPy ⊢
              refine r_icmp_eqZ (pc := 131) 186 (tX11_begins.at 73 rfl) (by decide) ⟨by omega, by omega⟩ ⟨by omega, by omega⟩ (fun c => by omega) (fun _ => ?_)
              refine r_aload_n (pc := 134) (i := 0) (tX11_begins.at 74 rfl) rfl rfl ?_
              refine r_get (pc := 135) (tX11_begins.at 75 rfl) gf_X11_36 (mH_0) rfl ?_
              refine r_bipush (pc := 138) (w := nI 7) (tX11_begins.at 76 rfl) (by decide) ?_
              refine r_aload_n (pc := 140) (i := 0) (tX11_begins.at 77 rfl) rfl rfl ?_
              refine r_get (pc := 141) (tX11_begins.at 78 rfl) gf_X11_42 (mH_0) rfl ?_
              refine r_iload_n (pc := 144) (i := 3) (tX11_begins.at 79 rfl) rfl rfl ?_
              refine r_iald (pc := 145) (tX11_begins.at 80 rfl) (mH_pls) (x) (rfl) (by omega) (Nat.le_of_ble_eq_true rfl) ?_
              refine r_eq rfl (st2 := [.int (nI (ascL (unP A T) x).length), .int (nI 7), .ref (m + 8)]) (by show [Value.int (zI (P x)), _, _] = _; rw [hPx, zI_nat]) ?_
              first | refine r_imulN (pc := 146) (tX11_begins.at 81 rfl) ?_ | refine r_imulZ (pc := 146) (tX11_begins.at 81 rfl) ?_ | refine r_imul (pc := 146) (tX11_begins.at 81 rfl) ?_
              refine r_aload_n (pc := 147) (i := 0) (tX11_begins.at 82 rfl) rfl rfl ?_
              refine r_get (pc := 148) (tX11_begins.at 83 rfl) gf_X11_42 (mH_0) rfl ?_
              refine r_iload (pc := 151) (i := 4) (tX11_begins.at 84 rfl) rfl ?_
              refine r_iald (pc := 153) (tX11_begins.at 85 rfl) (mH_pls) (y) (rfl) (by omega) (Nat.le_of_ble_eq_true rfl) ?_
              refine r_eq rfl (st2 := [.int (nI (ascL (unP A T) y).length), .int (nI (7 * (ascL (unP A T) x).length)), .ref (m + 8)]) (by show [Value.int (zI (P y)), _, _] = _; rw [hPy, zI_nat]) ?_
              have tail : ∀ z, z = lpl G.W G.n x y → J v mX11_begins (rmOf 3 0 0) (KM v Po noX 0 0) top 0 0 (mH v h m (S.bg P M (ascL (unP A T) G.n).length)) top 185 [some (.ref m), some (.int (nI A)), some (.int (nI T)), some (.int (nI x)), some (.int (nI y))] [.long (lI z), .int (nI (7 * (ascL (unP A T) x).length + (ascL (unP A T) y).length)), .ref (m + 8)] := by
                intro z hz
                refine r_last (pc := 185) (tX11_begins.at 106 rfl) (mH_mtx) (7 * (ascL (unP A T) x).length + (ascL (unP A T) y).length) (rfl) (by omega) (Nat.le_of_ble_eq_true rfl) ?_
                rw [upd_lF, mH_smtx]
                refine r_eq (h2 := mH v h m (S.bg P (upZ M (7 * (ascL (unP A T) x).length + (ascL (unP A T) y).length) z) (ascL (unP A T) G.n).length)) rfl rfl ?_
                first | refine r_iincN (pc := 186) (tX11_begins.at 107 rfl) rfl (by decide) ?_ | refine r_iinc (pc := 186) (tX11_begins.at 107 rfl) rfl rfl (by decide) ?_
                refine r_goto (pc := 189) 114 (tX11_begins.at 108 rfl) (by decide) ?_
                refine ih2 (y + 1) _ (by omega) (fun i hi => ?_) (fun w q hw hq hwq pw pq => ?_)
                · rw [upZ_ne _ _ (by rw [ne_eq, m7 (by omega) (by omega)]; omega)]
                  exact h0 i hi
                · by_cases c3 : w = x ∧ q = y
                  · rw [c3.1, c3.2, upZ_eq, hz]
                  · have hq2 := al q
                    rw [upZ_ne _ _ (by
                      rw [ne_eq, m7 (by omega) (by omega)]
                      intro z
                      exact c3 ⟨asc_inj _ pw c z.1, asc_inj _ pq c2 z.2⟩)]
                    exact hM w q hw hq (by omega) pw pq
              first | refine r_iaddN (pc := 154) (tX11_begins.at 86 rfl) ?_ | refine r_iaddZ (pc := 154) (tX11_begins.at 86 rfl) ?_ | refine r_iadd (pc := 154) (tX11_begins.at 86 rfl) ?_
              refine r_iload (pc := 155) (i := 4) (tX11_begins.at 87 rfl) rfl ?_
              refine r_iload_n (pc := 157) (i := 3) (tX11_begins.at 88 rfl) rfl rfl ?_
              have hd := degN_le (x := x) hn (by omega) hW
              have hw9 := hW (x * 6 + y) (by omega)
              refine r_icmp_neN (pc := 158) 171 (tX11_begins.at 89 rfl) (by decide) (by omega) (by omega) (fun c4 => ?_) (fun c4 => ?_)
              · refine r_aload_n (pc := 171) (i := 0) (tX11_begins.at 96 rfl) rfl rfl ?_
                refine r_get (pc := 172) (tX11_begins.at 97 rfl) gf_X11_23 (mH_0) rfl ?_
                refine r_bipush (pc := 175) (w := nI 6) (tX11_begins.at 98 rfl) (by decide) ?_
                refine r_iload_n (pc := 177) (i := 3) (tX11_begins.at 99 rfl) rfl rfl ?_
                first | refine r_imulN (pc := 178) (tX11_begins.at 100 rfl) ?_ | refine r_imulZ (pc := 178) (tX11_begins.at 100 rfl) ?_ | refine r_imul (pc := 178) (tX11_begins.at 100 rfl) ?_
                refine r_iload (pc := 179) (i := 4) (tX11_begins.at 101 rfl) rfl ?_
                first | refine r_iaddN (pc := 181) (tX11_begins.at 102 rfl) ?_ | refine r_iaddZ (pc := 181) (tX11_begins.at 102 rfl) ?_ | refine r_iadd (pc := 181) (tX11_begins.at 102 rfl) ?_
                refine r_iald (pc := 182) (tX11_begins.at 103 rfl) (mH_wts) (6 * x + y) (rfl) (by omega) (Nat.le_of_ble_eq_true rfl) ?_
                refine r_eq rfl (st2 := [.int (nI (G.W (x * 6 + y))), .int (nI (7 * (ascL (unP A T) x).length + (ascL (unP A T) y).length)), .ref (m + 8)]) (by rw [← (hl.1 x y (by omega) (by omega)).1]; rfl) ?_
                refine r_inegN (pc := 183) (tX11_begins.at 104 rfl) ?_
                refine r_i2lZ (pc := 184) (tX11_begins.at 105 rfl) ⟨by omega, by omega⟩ ?_
                exact tail _ (by rw [lpl, if_neg c4])
              · refine r_aload_n (pc := 161) (i := 0) (tX11_begins.at 90 rfl) rfl rfl ?_
                refine r_get (pc := 162) (tX11_begins.at 91 rfl) gf_X11_29 (mH_0) rfl ?_
                refine r_iload_n (pc := 165) (i := 3) (tX11_begins.at 92 rfl) rfl rfl ?_
                refine r_iald (pc := 166) (tX11_begins.at 93 rfl) (mH_dgs) (x) (rfl) (by omega) (Nat.le_of_ble_eq_true rfl) ?_
                refine r_eq rfl (st2 := [.int (nI (degN G.W x G.n)), .int (nI (7 * (ascL (unP A T) x).length + (ascL (unP A T) y).length)), .ref (m + 8)]) (by rw [← hl.2 x (by omega)]; rfl) ?_
                first | refine r_i2lN (pc := 167) (tX11_begins.at 94 rfl) (by omega) ?_ | refine r_i2lZ (pc := 167) (tX11_begins.at 94 rfl) ⟨by omega, by omega⟩ ?_ | refine r_i2l (pc := 167) (tX11_begins.at 94 rfl) ?_
                refine r_goto (pc := 168) 185 (tX11_begins.at 95 rfl) (by decide) ?_
                exact tail _ (by rw [lpl, if_pos c4])
            · rw [if_neg c2] at hPy ⊢
              refine r_icmp_eqZ (pc := 131) 186 (tX11_begins.at 73 rfl) (by decide) ⟨by omega, by omega⟩ ⟨by omega, by omega⟩ (fun _ => ?_) (fun c => by omega)
              first | refine r_iincN (pc := 186) (tX11_begins.at 107 rfl) rfl (by decide) ?_ | refine r_iinc (pc := 186) (tX11_begins.at 107 rfl) rfl rfl (by decide) ?_
              refine r_goto (pc := 189) 114 (tX11_begins.at 108 rfl) (by decide) ?_
              refine ih2 (y + 1) M (by omega) h0 (fun w q hw hq hwq pw pq => hM w q hw hq ?_ pw pq)
              by_cases c3 : q = y
              · rw [c3] at pq
                exact absurd pq c2
              · omega
        exact k4 G.n 0 M (by omega) h0 (fun w z hw hz hwz pw pz => hM w z (by omega) hz pw pz)
      · rw [if_neg c] at hPx ⊢
        refine r_icmp_neZ (pc := 105) 111 (tX11_begins.at 60 rfl) (by decide) ⟨by omega, by omega⟩ ⟨by omega, by omega⟩ (fun c => by omega) (fun _ => ?_)
        refine r_goto (pc := 108) 192 (tX11_begins.at 61 rfl) (by decide) ?_
        first | refine r_iincN (pc := 192) (tX11_begins.at 109 rfl) rfl (by decide) ?_ | refine r_iinc (pc := 192) (tX11_begins.at 109 rfl) rfl rfl (by decide) ?_
        refine r_goto (pc := 195) 90 (tX11_begins.at 110 rfl) (by decide) ?_
        refine ih (x + 1) P M _ (by omega) hP h0 (fun w z hw hz pw pz => ?_)
        by_cases c3 : w = x
        · rw [c3] at pw
          exact absurd pw c
        · exact hM w z (by omega) hz pw pz
  have k2 : ∀ k u P M, u + k = 42 → (∀ y, y < G.n → P y = if unP A T y = true then ((ascL (unP A T) y).length : Int) else -1) → (∀ i, i < u → M i = 0) → J v mX11_begins (rmOf 3 0 0) (KM v Po noX 0 0) top 0 0 (mH v h m (S.bg P M (ascL (unP A T) G.n).length)) top 69 [some (.ref m), some (.int (nI A)), some (.int (nI T)), some (.int (nI u)), none] [] := by
    intro k
    induction k with
    | zero =>
      intro u P M hu hP hM
      refine r_iload_n (pc := 69) (i := 3) (tX11_begins.at 39 rfl) rfl rfl ?_
      refine r_bipush (pc := 70) (w := nI 42) (tX11_begins.at 40 rfl) (by decide) ?_
      refine r_icmp_geN (pc := 72) 88 (tX11_begins.at 41 rfl) (by decide) (by omega) (by omega) (fun _ => ?_) (fun c => by omega)
      refine r_iconst (pc := 88) (w := nI 0) (tX11_begins.at 49 rfl) (by decide) ?_
      refine r_istore_n (pc := 89) (i := 3) (tX11_begins.at 50 rfl) rfl (by decide) ?_
      exact k3 G.n 0 P M _ (by omega) hP (fun i hi => hM _ (by omega)) (fun y z hy => by omega)
    | succ k ih =>
      intro u P M hu hP hM
      refine r_iload_n (pc := 69) (i := 3) (tX11_begins.at 39 rfl) rfl rfl ?_
      refine r_bipush (pc := 70) (w := nI 42) (tX11_begins.at 40 rfl) (by decide) ?_
      refine r_icmp_geN (pc := 72) 88 (tX11_begins.at 41 rfl) (by decide) (by omega) (by omega) (fun c => by omega) (fun _ => ?_)
      refine r_aload_n (pc := 75) (i := 0) (tX11_begins.at 42 rfl) rfl rfl ?_
      refine r_get (pc := 76) (tX11_begins.at 43 rfl) gf_X11_36 (mH_0) rfl ?_
      refine r_iload_n (pc := 79) (i := 3) (tX11_begins.at 44 rfl) rfl rfl ?_
      refine r_lconst (pc := 80) (w := lI 0) (tX11_begins.at 45 rfl) (by decide) ?_
      refine r_last (pc := 81) (tX11_begins.at 46 rfl) (mH_mtx) (u) (rfl) (by omega) (Nat.le_of_ble_eq_true rfl) ?_
      rw [upd_lF, mH_smtx]
      refine r_eq (h2 := mH v h m (S.bg P (upZ M u 0) (ascL (unP A T) G.n).length)) rfl rfl ?_
      first | refine r_iincN (pc := 82) (tX11_begins.at 47 rfl) rfl (by decide) ?_ | refine r_iinc (pc := 82) (tX11_begins.at 47 rfl) rfl rfl (by decide) ?_
      refine r_goto (pc := 85) 69 (tX11_begins.at 48 rfl) (by decide) ?_
      refine ih (u + 1) P _ (by omega) hP (fun i hi => ?_)
      by_cases c : i = u
      · rw [c, upZ_eq]
      · rw [upZ_ne _ _ c]
        exact hM i (by omega)
  have k1 : ∀ k x P, x + k = G.n → (∀ y, y < x → P y = if unP A T y = true then ((ascL (unP A T) y).length : Int) else -1) → J v mX11_begins (rmOf 3 0 0) (KM v Po noX 0 0) top 0 0 (mH v h m (S.bg P S.mtx (ascL (unP A T) x).length)) top 7 [some (.ref m), some (.int (nI A)), some (.int (nI T)), some (.int (nI x)), none] [] := by
    intro k
    induction k with
    | zero =>
      intro x P hx hP
      have hx : x = G.n := by omega
      subst hx
      refine r_iload_n (pc := 7) (i := 3) (tX11_begins.at 5 rfl) rfl rfl ?_
      refine r_aload_n (pc := 8) (i := 0) (tX11_begins.at 6 rfl) rfl rfl ?_
      refine r_callV (M' := mX11_count) (pc := 9) (tX11_begins.at 7 rfl) ml_X11_218 rfl mw_X11_count ⟨by decide, by decide⟩ (mH_0) rfl rfl (c_mCount (S := S.bg P S.mtx _) hg.1) rfl rfl (Nat.le_of_ble_eq_true rfl) (Nat.le_of_ble_eq_true rfl) (Nat.le_of_ble_eq_true rfl) ?_
      rintro _ _ _ ⟨rfl, rfl, rfl⟩
      rw [ho]
      refine r_icmp_geN (pc := 12) 67 (tX11_begins.at 8 rfl) (by decide) (by omega) (by omega) (fun _ => ?_) (fun c => by omega)
      refine r_iconst (pc := 67) (w := nI 0) (tX11_begins.at 37 rfl) (by decide) ?_
      refine r_istore_n (pc := 68) (i := 3) (tX11_begins.at 38 rfl) rfl (by decide) ?_
      exact k2 42 0 P S.mtx (by omega) hP (fun i hi => by omega)
    | succ k ih =>
      intro x P hx hP
      have nx := ih (x + 1) (upZ P x (if unP A T x = true then ((ascL (unP A T) x).length : Int) else -1)) (by omega) (fun y hy => by
        by_cases c : y = x
        · rw [c, upZ_eq]
        · rw [upZ_ne _ _ c]
          exact hP y (by omega))
      rw [ascL] at nx
      refine r_iload_n (pc := 7) (i := 3) (tX11_begins.at 5 rfl) rfl rfl ?_
      refine r_aload_n (pc := 8) (i := 0) (tX11_begins.at 6 rfl) rfl rfl ?_
      refine r_callV (M' := mX11_count) (pc := 9) (tX11_begins.at 7 rfl) ml_X11_218 rfl mw_X11_count ⟨by decide, by decide⟩ (mH_0) rfl rfl (c_mCount (S := S.bg P S.mtx _) hg.1) rfl rfl (Nat.le_of_ble_eq_true rfl) (Nat.le_of_ble_eq_true rfl) (Nat.le_of_ble_eq_true rfl) ?_
      rintro _ _ _ ⟨rfl, rfl, rfl⟩
      rw [ho]
      refine r_icmp_geN (pc := 12) 67 (tX11_begins.at 8 rfl) (by decide) (by omega) (by omega) (fun c => by omega) (fun _ => ?_)
      refine r_aload_n (pc := 15) (i := 0) (tX11_begins.at 9 rfl) rfl rfl ?_
      refine r_get (pc := 16) (tX11_begins.at 10 rfl) gf_X11_42 (mH_0) rfl ?_
      refine r_iload_n (pc := 19) (i := 3) (tX11_begins.at 11 rfl) rfl rfl ?_
      refine r_iconst (pc := 20) (w := zI (-1)) (tX11_begins.at 12 rfl) (by decide) ?_
      refine r_iast (pc := 21) (tX11_begins.at 13 rfl) (mH_pls) (x) (rfl) (by omega) (Nat.le_of_ble_eq_true rfl) ?_
      rw [upd_sF, mH_spls]
      refine r_eq (h2 := mH v h m (S.bg (upZ P x (-1)) S.mtx (ascL (unP A T) x).length)) rfl rfl ?_
      have out : unP A T x = false → J v mX11_begins (rmOf 3 0 0) (KM v Po noX 0 0) top 0 0 (mH v h m (S.bg (upZ P x (-1)) S.mtx (ascL (unP A T) x).length)) top 61 [some (.ref m), some (.int (nI A)), some (.int (nI T)), some (.int (nI x)), none] [] := by
        intro q
        rw [if_neg (by rw [q]; simp), if_neg (by rw [q]; simp)] at nx
        first | refine r_iincN (pc := 61) (tX11_begins.at 35 rfl) rfl (by decide) ?_ | refine r_iinc (pc := 61) (tX11_begins.at 35 rfl) rfl rfl (by decide) ?_
        refine r_goto (pc := 64) 7 (tX11_begins.at 36 rfl) (by decide) ?_
        exact nx
      have hb1 : Bool.toNat (A.testBit x) ≤ 1 := Bool.toNat_le _
      have hb2 : Bool.toNat (T.testBit x) ≤ 1 := Bool.toNat_le _
      refine r_iload_n (pc := 22) (i := 1) (tX11_begins.at 14 rfl) rfl rfl ?_
      refine r_iload_n (pc := 23) (i := 3) (tX11_begins.at 15 rfl) rfl rfl ?_
      refine r_callS (M' := mX11_has) (pc := 24) (tX11_begins.at 16 rfl) ml_X11_221 rfl mw_X11_has ⟨by decide, by decide⟩ (c_mHas hA (show x < 8 by omega)) rfl rfl (Nat.le_of_ble_eq_true rfl) (Nat.le_of_ble_eq_true rfl) (Nat.le_of_ble_eq_true rfl) ?_
      rintro _ _ _ ⟨rfl, rfl, rfl⟩
      refine r_if_eqN (pc := 27) 61 (tX11_begins.at 17 rfl) (by decide) (by omega) (fun c => ?_) (fun c => ?_)
      · exact out (by unfold unP; rw [tbF c]; rfl)
      · refine r_iload_n (pc := 30) (i := 2) (tX11_begins.at 18 rfl) rfl rfl ?_
        refine r_iload_n (pc := 31) (i := 3) (tX11_begins.at 19 rfl) rfl rfl ?_
        refine r_callS (M' := mX11_has) (pc := 32) (tX11_begins.at 20 rfl) ml_X11_221 rfl mw_X11_has ⟨by decide, by decide⟩ (c_mHas hT (show x < 8 by omega)) rfl rfl (Nat.le_of_ble_eq_true rfl) (Nat.le_of_ble_eq_true rfl) (Nat.le_of_ble_eq_true rfl) ?_
        rintro _ _ _ ⟨rfl, rfl, rfl⟩
        refine r_if_eqN (pc := 35) 41 (tX11_begins.at 21 rfl) (by decide) (by omega) (fun c2 => ?_) (fun c2 => ?_)
        · have q : unP A T x = true := by unfold unP; rw [tbT c, tbF c2]; rfl
          rw [if_pos q, if_pos q] at nx
          refine r_aload_n (pc := 41) (i := 0) (tX11_begins.at 23 rfl) rfl rfl ?_
          refine r_get (pc := 42) (tX11_begins.at 24 rfl) gf_X11_42 (mH_0) rfl ?_
          refine r_iload_n (pc := 45) (i := 3) (tX11_begins.at 25 rfl) rfl rfl ?_
          refine r_aload_n (pc := 46) (i := 0) (tX11_begins.at 26 rfl) rfl rfl ?_
          refine r_get (pc := 47) (tX11_begins.at 27 rfl) gf_X11_235 (mH_0) rfl ?_
          refine r_eq rfl (st2 := [.int (zI ((ascL (unP A T) x).length : Nat)), .int (nI x), .ref (m + 10)]) (by rw [zI_nat]; rfl) ?_
          refine r_iast (pc := 50) (tX11_begins.at 28 rfl) (mH_pls) (x) (rfl) (by omega) (Nat.le_of_ble_eq_true rfl) ?_
          rw [upd_sF, mH_spls]
          refine r_eq (h2 := mH v h m (S.bg (upZ P x ((ascL (unP A T) x).length : Nat)) S.mtx (ascL (unP A T) x).length)) ?_ rfl ?_
          · rw [show upZ (S.bg (upZ P x (-1)) S.mtx (ascL (unP A T) x).length).pls x ((ascL (unP A T) x).length : Nat) = upZ P x ((ascL (unP A T) x).length : Nat) by
              funext y
              show upZ (upZ P x (-1)) x _ y = _
              unfold upZ
              split <;> rfl]
            rfl
          · refine r_aload_n (pc := 51) (i := 0) (tX11_begins.at 29 rfl) rfl rfl ?_
            refine r_dup (pc := 52) (tX11_begins.at 30 rfl) rfl ?_
            refine r_get (pc := 53) (tX11_begins.at 31 rfl) gf_X11_235 (mH_0) rfl ?_
            refine r_iconst (pc := 56) (w := nI 1) (tX11_begins.at 32 rfl) (by decide) ?_
            first | refine r_iaddN (pc := 57) (tX11_begins.at 33 rfl) ?_ | refine r_iaddZ (pc := 57) (tX11_begins.at 33 rfl) ?_ | refine r_iadd (pc := 57) (tX11_begins.at 33 rfl) ?_
            refine r_put (pc := 58) (tX11_begins.at 34 rfl) pf_X11_235 (mH_0) (Nat.le_of_ble_eq_true rfl) (rfl) (rfl) ?_
            refine r_eq (h2 := mH v h m (S.bg (upZ P x ((ascL (unP A T) x).length : Nat)) S.mtx ((ascL (unP A T) x).length + 1))) (mH_p0 (S' := S.bg (upZ P x ((ascL (unP A T) x).length : Nat)) S.mtx ((ascL (unP A T) x).length + 1)) rfl) rfl ?_
            first | refine r_iincN (pc := 61) (tX11_begins.at 35 rfl) rfl (by decide) ?_ | refine r_iinc (pc := 61) (tX11_begins.at 35 rfl) rfl rfl (by decide) ?_
            refine r_goto (pc := 64) 7 (tX11_begins.at 36 rfl) (by decide) ?_
            rw [List.length_append] at nx
            exact nx
        · refine r_goto (pc := 38) 61 (tX11_begins.at 22 rfl) (by decide) ?_
          exact out (by unfold unP; rw [tbT c2]; simp)
  refine r_aload_n (pc := 0) (i := 0) (tX11_begins.at 0 rfl) rfl rfl ?_
  refine r_iconst (pc := 1) (w := nI 0) (tX11_begins.at 1 rfl) (by decide) ?_
  refine r_put (pc := 2) (tX11_begins.at 2 rfl) pf_X11_235 (mH_0) (Nat.le_of_ble_eq_true rfl) (rfl) (rfl) ?_
  refine r_eq (h2 := mH v h m (S.s_unk 0)) (mH_p0 (S' := S.s_unk 0) rfl) rfl ?_
  refine r_iconst (pc := 5) (w := nI 0) (tX11_begins.at 3 rfl) (by decide) ?_
  refine r_istore_n (pc := 6) (i := 3) (tX11_begins.at 4 rfl) rfl (by decide) ?_
  exact k1 G.n 0 S.pls (by omega) (fun y hy => by omega)
end

