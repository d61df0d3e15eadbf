/-! ===== the reference: costs ===== -/
theorem wiI_b {x b : Int} (hb : 0 ≤ b) : -b ≤ wiI x b ∧ wiI x b ≤ b := by
  unfold wiI
  split
  · omega
  · split <;> omega
def opM (k : Nat) (l r : Int) : Int := if k = 1 then l + r else if k = 2 then l - r else if k = 3 then l * r else if r = 0 then 0 else l.tdiv r
def opdM (k w : Nat) (wt x y : Nat) : Nat := if k = 0 then w else if w = 0 then wt else if w = 1 then x else y
/-- the stack behind k codes -/
def mev (kd wi : Nat → Nat) (wt x y : Nat) : Nat → List Int
  | 0 => []
  | k + 1 => if kd k = 0 ∨ kd k = 5 then (opdM (kd k) (wi k) wt x y : Nat) :: mev kd wi wt x y k else
    match mev kd wi wt x y k with
    | r :: l :: t => wiI (opM (kd k) l r) 1000000 :: t
    | L => L
theorem mev_op {kd wi : Nat → Nat} {wt x y k : Nat} {r l : Int} {t : List Int} (h : ¬ (kd k = 0 ∨ kd k = 5)) (hL : mev kd wi wt x y k = r :: l :: t) : mev kd wi wt x y (k + 1) = wiI (opM (kd k) l r) 1000000 :: t := by
  rw [mev, if_neg h, hL]
theorem mev_pu {kd wi : Nat → Nat} {wt x y k : Nat} (h : kd k = 0 ∨ kd k = 5) : mev kd wi wt x y (k + 1) = ((opdM (kd k) (wi k) wt x y : Nat) : Int) :: mev kd wi wt x y k := by
  rw [mev, if_pos h]
theorem mev_len (kd wi : Nat → Nat) (wt x y : Nat) : ∀ k, (mev kd wi wt x y k).length ≤ k
  | 0 => by simp [mev]
  | k + 1 => by
    have ih := mev_len kd wi wt x y k
    rw [mev]
    split
    · rw [List.length_cons]
      omega
    · split
      · next r l t e =>
        rw [e] at ih
        simp at ih ⊢
        omega
      · omega
/-- codes of a row -/
def MS.ckd (S : MS) (k : Nat) : Nat := S.rw (56 + 2 * k)
def MS.cwi (S : MS) (k : Nat) : Nat := S.rw (56 + 2 * k + 1)
def clN (x : Int) : Nat := if x < 0 then 0 else if 99 < x then 99 else x.toNat
def MS.mcs (S : MS) (wt x y : Nat) : Nat := if S.rw 3 = 0 then 1 else clN (evV (mev S.ckd S.cwi wt x y (S.rw 3)))
def okCd (S : MS) : Prop := S.rw 3 ≤ 592 ∧ (∀ k, k < S.rw 3 → S.ckd k ≤ 5 ∧ S.cwi k ≤ 9999) ∧ ∀ k wt x y, k < S.rw 3 → ¬ (S.ckd k = 0 ∨ S.ckd k = 5) → 2 ≤ (mev S.ckd S.cwi wt x y k).length
section
variable {v : Ev} {h : Hp} {top m : Nat} {S : MS}
theorem evV_cons0 {L : List Int} (hL : L ≠ []) {s : Nat → Int} (hs : stk s L) : s 0 = evV L := by
  match hR : L.reverse with
  | [] => rw [List.reverse_eq_nil_iff.mp hR] at hL; exact absurd rfl hL
  | z :: t => rw [evV, hR]; exact hs 0 z (by rw [hR]; rfl)
theorem c_mCost {wt x y : Nat} (hn : S.now < 9) (hc : okCd S) (hw : wt ≤ 9) (hx : x < 6) (hy : y < 6) : Cal v mX11_costOf 2 0 0 [.ref m, .int (nI wt), .int (nI x), .int (nI y)] (mH v h m S) top (fun r h' top' => r = some (.int (nI (S.mcs wt x y))) ∧ top = top' ∧ ∃ p, h' = mH v h m (S.s_pil p)) noX := by
  obtain ⟨hc1, hc2, hc3⟩ := hc
  have hwi : ∀ k, k < S.rw 3 → S.cwi k ≤ 9999 := fun k hk => (hc2 k hk).2
  refine Cal.ofJ (by decide +kernel) rfl (Nat.le_of_ble_eq_true rfl) fun hz0 => ?_
  refine r_ls [some (.ref m), some (.int (nI wt)), some (.int (nI x)), some (.int (nI y)), none, none, none, none, none, none, none, none] rfl ?_
  generalize hPo : (fun (r : Option Value) (h' : Hp) (top' : Nat) => r = some (.int (nI (S.mcs wt x y))) ∧ top = top' ∧ ∃ p, h' = mH v h m (S.s_pil p)) = Po
  refine r_aload_n (pc := 0) (i := 0) (tX11_costOf.at 0 rfl) rfl rfl ?_
  refine r_iconst (pc := 1) (w := nI 3) (tX11_costOf.at 1 rfl) (by decide) ?_
  refine r_callV (M' := mX11_get) (pc := 2) (tX11_costOf.at 2 rfl) ml_X11_61 rfl mw_X11_get ⟨by decide, by decide⟩ (mH_0) rfl rfl (c_mGet (k := 3) hn (by omega)) rfl rfl (Nat.le_of_ble_eq_true rfl) (Nat.le_of_ble_eq_true rfl) (Nat.le_of_ble_eq_true rfl) ?_
  rintro _ _ _ ⟨rfl, rfl, rfl⟩
  refine r_if_neN (pc := 5) 10 (tX11_costOf.at 3 rfl) (by decide) (by omega) (fun c0 => ?_) (fun c0 => ?_)
  · -- bounds of the stack's numbers, over the codes seen
    have hb : ∀ k, k ≤ S.rw 3 → ∀ z ∈ mev S.ckd S.cwi wt x y k, -1000000 ≤ z ∧ z ≤ 1000000 := by
      intro k
      induction k with
      | zero => intro _ z hz; simp [mev] at hz
      | succ k ih =>
        intro hk z hz
        have ih := ih (by omega)
        rw [mev] at hz
        split at hz
        · rcases List.mem_cons.mp hz with e | e
          · have := hwi k (by omega)
            have : opdM (S.ckd k) (S.cwi k) wt x y ≤ 1000000 := by unfold opdM; split <;> (try split) <;> (try split) <;> omega
            rw [e]
            omega
          · exact ih z e
        · split at hz
          · next r l t e =>
            rcases List.mem_cons.mp hz with e2 | e2
            · rw [e2]
              exact wiI_b (by omega)
            · exact ih z (by rw [e]; exact List.mem_cons_of_mem _ (List.mem_cons_of_mem _ e2))
          · exact ih z hz
    have hlen : ∀ k, k < S.rw 3 → 1 ≤ (mev S.ckd S.cwi wt x y (k + 1)).length := by
      intro k hk
      by_cases c : S.ckd k = 0 ∨ S.ckd k = 5
      · rw [mev_pu c]
        simp
      · have := hc3 k wt x y hk c
        match hL : mev S.ckd S.cwi wt x y k with
        | [] => rw [hL] at this; simp at this
        | [_] => rw [hL] at this; simp at this
        | r :: l :: t => rw [mev_op c hL]; simp
    have key : ∀ n k (p : Nat → Int) o6 o7 o8 o10, k + n = S.rw 3 → stk p (mev S.ckd S.cwi wt x y k) → J v mX11_costOf (rmOf 2 0 0) (KM v Po noX 0 0) top 0 0 (mH v h m (S.s_pil p)) top 16 [some (.ref m), some (.int (nI wt)), some (.int (nI x)), some (.int (nI y)), some (.int (nI (mev S.ckd S.cwi wt x y k).length)), some (.int (nI k)), o6, o7, o8, none, o10, none] [] := by
      intro n
      induction n with
      | zero =>
        intro k p o6 o7 o8 o10 hk hs
        have hk : k = S.rw 3 := by omega
        have hll := hlen (k - 1) (by omega)
        rw [show k - 1 + 1 = k by omega] at hll
        have hne : mev S.ckd S.cwi wt x y k ≠ [] := by intro z; rw [z] at hll; simp at hll
        have hv := evV_cons0 hne hs
        have hbv : -1000000 ≤ p 0 ∧ p 0 ≤ 1000000 := by
          have hm : p 0 ∈ mev S.ckd S.cwi wt x y k := by
            match hR : (mev S.ckd S.cwi wt x y k).reverse with
            | [] => rw [List.reverse_eq_nil_iff.mp hR] at hne; exact absurd rfl hne
            | z :: t =>
              have e := hs 0 z (by rw [hR]; rfl)
              rw [e, ← List.mem_reverse, hR]
              exact List.mem_cons_self
          exact hb k (by omega) _ hm
        have fin : ∀ z, z = S.mcs wt x y → Po (some (.int (nI z))) (mH v h m (S.s_pil p)) top := by
          intro z hz
          subst hPo
          exact ⟨by rw [hz], rfl, p, rfl⟩
        have hm : S.mcs wt x y = clN (p 0) := by rw [MS.mcs, if_neg c0, hv, hk]
        refine r_iload (pc := 16) (i := 5) (tX11_costOf.at 10 rfl) rfl ?_
        refine r_aload_n (pc := 18) (i := 0) (tX11_costOf.at 11 rfl) rfl rfl ?_
        refine r_iconst (pc := 19) (w := nI 3) (tX11_costOf.at 12 rfl) (by decide) ?_
        refine r_callV (M' := mX11_get) (pc := 20) (tX11_costOf.at 13 rfl) ml_X11_61 rfl mw_X11_get ⟨by decide, by decide⟩ (mH_0) rfl rfl (c_mGet (S := S.s_pil p) (k := 3) hn (by omega)) rfl rfl (Nat.le_of_ble_eq_true rfl) (Nat.le_of_ble_eq_true rfl) (Nat.le_of_ble_eq_true rfl) ?_
        rintro _ _ _ ⟨rfl, rfl, rfl⟩
        rw [show (S.s_pil p).rw 3 = S.rw 3 from rfl]
        refine r_icmp_geN (pc := 23) 214 (tX11_costOf.at 14 rfl) (by decide) (by omega) (by omega) (fun _ => ?_) (fun c => by omega)
        refine r_aload_n (pc := 214) (i := 0) (tX11_costOf.at 115 rfl) rfl rfl ?_
        refine r_get (pc := 215) (tX11_costOf.at 116 rfl) gf_X11_32 (mH_0) rfl ?_
        refine r_iconst (pc := 218) (w := nI 0) (tX11_costOf.at 117 rfl) (by decide) ?_
        refine r_lald (pc := 219) (tX11_costOf.at 118 rfl) (mH_pil) (0) (rfl) (by omega) (Nat.le_of_ble_eq_true rfl) ?_
        refine r_lconst (pc := 220) (w := lI 0) (tX11_costOf.at 119 rfl) (by decide) ?_
        rw [show lF (S.s_pil p).pil 0 = lI (p 0) from rfl]
        refine r_lc_ge (pc := 221) 229 (tX11_costOf.at 120 rfl) (tX11_costOf.at 121 rfl) (by decide) (⟨by omega, by omega⟩) (⟨by omega, by omega⟩) (fun c1 => ?_) (fun c1 => ?_)
        · refine r_aload_n (pc := 229) (i := 0) (tX11_costOf.at 124 rfl) rfl rfl ?_
          refine r_get (pc := 230) (tX11_costOf.at 125 rfl) gf_X11_32 (mH_0) rfl ?_
          refine r_iconst (pc := 233) (w := nI 0) (tX11_costOf.at 126 rfl) (by decide) ?_
          refine r_lald (pc := 234) (tX11_costOf.at 127 rfl) (mH_pil) (0) (rfl) (by omega) (Nat.le_of_ble_eq_true rfl) ?_
          refine r_ldc2 (pc := 235) (tX11_costOf.at 128 rfl) lcL_X11_212 ?_
          rw [show lF (S.s_pil p).pil 0 = lI (p 0) from rfl]
          refine r_lc_le (pc := 238) 248 (tX11_costOf.at 129 rfl) (tX11_costOf.at 130 rfl) (by decide) (⟨by omega, by omega⟩) (⟨by omega, by omega⟩) (fun c2 => ?_) (fun c2 => ?_)
          · refine r_aload_n (pc := 248) (i := 0) (tX11_costOf.at 133 rfl) rfl rfl ?_
            refine r_get (pc := 249) (tX11_costOf.at 134 rfl) gf_X11_32 (mH_0) rfl ?_
            refine r_iconst (pc := 252) (w := nI 0) (tX11_costOf.at 135 rfl) (by decide) ?_
            refine r_lald (pc := 253) (tX11_costOf.at 136 rfl) (mH_pil) (0) (rfl) (by omega) (Nat.le_of_ble_eq_true rfl) ?_
            rw [show lF (S.s_pil p).pil 0 = lI ((p 0).toNat : Nat) by rw [show (((p 0).toNat : Nat) : Int) = p 0 by omega]; rfl]
            refine r_l2iN (pc := 254) (tX11_costOf.at 137 rfl) ?_
            refine r_iret (pc := 255) (tX11_costOf.at 138 rfl) rfl (Nat.le_of_ble_eq_true rfl) (Nat.le_of_ble_eq_true rfl) ?_
            exact fin _ (by rw [hm, clN, if_neg (by omega), if_neg (by omega)])
          · refine r_ldc2 (pc := 242) (tX11_costOf.at 131 rfl) lcL_X11_212 ?_
            refine r_goto (pc := 245) 254 (tX11_costOf.at 132 rfl) (by decide) ?_
            refine r_eq rfl (st2 := [.long (lI ((99 : Nat) : Int))]) rfl ?_
            refine r_l2iN (pc := 254) (tX11_costOf.at 137 rfl) ?_
            refine r_iret (pc := 255) (tX11_costOf.at 138 rfl) rfl (Nat.le_of_ble_eq_true rfl) (Nat.le_of_ble_eq_true rfl) ?_
            exact fin 99 (by rw [hm, clN, if_neg (by omega), if_pos c2])
        · refine r_lconst (pc := 225) (w := lI 0) (tX11_costOf.at 122 rfl) (by decide) ?_
          refine r_goto (pc := 226) 254 (tX11_costOf.at 123 rfl) (by decide) ?_
          refine r_eq rfl (st2 := [.long (lI ((0 : Nat) : Int))]) rfl ?_
          refine r_l2iN (pc := 254) (tX11_costOf.at 137 rfl) ?_
          refine r_iret (pc := 255) (tX11_costOf.at 138 rfl) rfl (Nat.le_of_ble_eq_true rfl) (Nat.le_of_ble_eq_true rfl) ?_
          exact fin 0 (by rw [hm, clN, if_pos c1])
      | succ n ih =>
        intro k p o6 o7 o8 o10 hk hs
        have hln := mev_len S.ckd S.cwi wt x y k
        obtain ⟨k1, k2⟩ := hc2 k (by omega)
        refine r_iload (pc := 16) (i := 5) (tX11_costOf.at 10 rfl) rfl ?_
        refine r_aload_n (pc := 18) (i := 0) (tX11_costOf.at 11 rfl) rfl rfl ?_
        refine r_iconst (pc := 19) (w := nI 3) (tX11_costOf.at 12 rfl) (by decide) ?_
        refine r_callV (M' := mX11_get) (pc := 20) (tX11_costOf.at 13 rfl) ml_X11_61 rfl mw_X11_get ⟨by decide, by decide⟩ (mH_0) rfl rfl (c_mGet (S := S.s_pil p) (k := 3) hn (by omega)) rfl rfl (Nat.le_of_ble_eq_true rfl) (Nat.le_of_ble_eq_true rfl) (Nat.le_of_ble_eq_true rfl) ?_
        rintro _ _ _ ⟨rfl, rfl, rfl⟩
        rw [show (S.s_pil p).rw 3 = S.rw 3 from rfl]
        refine r_icmp_geN (pc := 23) 214 (tX11_costOf.at 14 rfl) (by decide) (by omega) (by omega) (fun c => by omega) (fun _ => ?_)
        refine r_aload_n (pc := 26) (i := 0) (tX11_costOf.at 15 rfl) rfl rfl ?_
        refine r_bipush (pc := 27) (w := nI 56) (tX11_costOf.at 16 rfl) (by decide) ?_
        refine r_iconst (pc := 29) (w := nI 2) (tX11_costOf.at 17 rfl) (by decide) ?_
        refine r_iload (pc := 30) (i := 5) (tX11_costOf.at 18 rfl) rfl ?_
        first | refine r_imulN (pc := 32) (tX11_costOf.at 19 rfl) ?_ | refine r_imulZ (pc := 32) (tX11_costOf.at 19 rfl) ?_ | refine r_imul (pc := 32) (tX11_costOf.at 19 rfl) ?_
        first | refine r_iaddN (pc := 33) (tX11_costOf.at 20 rfl) ?_ | refine r_iaddZ (pc := 33) (tX11_costOf.at 20 rfl) ?_ | refine r_iadd (pc := 33) (tX11_costOf.at 20 rfl) ?_
        refine r_callV (M' := mX11_get) (pc := 34) (tX11_costOf.at 21 rfl) ml_X11_61 rfl mw_X11_get ⟨by decide, by decide⟩ (mH_0) rfl rfl (c_mGet (S := S.s_pil p) (k := 56 + 2 * k) hn (by omega)) rfl rfl (Nat.le_of_ble_eq_true rfl) (Nat.le_of_ble_eq_true rfl) (Nat.le_of_ble_eq_true rfl) ?_
        rintro _ _ _ ⟨rfl, rfl, rfl⟩
        rw [show (S.s_pil p).rw (56 + 2 * k) = S.ckd k from rfl]
        refine r_istore (pc := 37) (i := 6) (tX11_costOf.at 22 rfl) (by decide) ?_
        refine r_aload_n (pc := 39) (i := 0) (tX11_costOf.at 23 rfl) rfl rfl ?_
        refine r_bipush (pc := 40) (w := nI 56) (tX11_costOf.at 24 rfl) (by decide) ?_
        refine r_iconst (pc := 42) (w := nI 2) (tX11_costOf.at 25 rfl) (by decide) ?_
        refine r_iload (pc := 43) (i := 5) (tX11_costOf.at 26 rfl) rfl ?_
        first | refine r_imulN (pc := 45) (tX11_costOf.at 27 rfl) ?_ | refine r_imulZ (pc := 45) (tX11_costOf.at 27 rfl) ?_ | refine r_imul (pc := 45) (tX11_costOf.at 27 rfl) ?_
        first | refine r_iaddN (pc := 46) (tX11_costOf.at 28 rfl) ?_ | refine r_iaddZ (pc := 46) (tX11_costOf.at 28 rfl) ?_ | refine r_iadd (pc := 46) (tX11_costOf.at 28 rfl) ?_
        refine r_iconst (pc := 47) (w := nI 1) (tX11_costOf.at 29 rfl) (by decide) ?_
        first | refine r_iaddN (pc := 48) (tX11_costOf.at 30 rfl) ?_ | refine r_iaddZ (pc := 48) (tX11_costOf.at 30 rfl) ?_ | refine r_iadd (pc := 48) (tX11_costOf.at 30 rfl) ?_
        refine r_callV (M' := mX11_get) (pc := 49) (tX11_costOf.at 31 rfl) ml_X11_61 rfl mw_X11_get ⟨by decide, by decide⟩ (mH_0) rfl rfl (c_mGet (S := S.s_pil p) (k := 56 + 2 * k + 1) hn (by omega)) rfl rfl (Nat.le_of_ble_eq_true rfl) (Nat.le_of_ble_eq_true rfl) (Nat.le_of_ble_eq_true rfl) ?_
        rintro _ _ _ ⟨rfl, rfl, rfl⟩
        rw [show (S.s_pil p).rw (56 + 2 * k + 1) = S.cwi k from rfl]
        have nx := ih (k + 1)
        by_cases cp : S.ckd k = 0 ∨ S.ckd k = 5
        · rw [mev_pu cp] at nx
          have fin : ∀ z : Nat, z = opdM (S.ckd k) (S.cwi k) wt x y → J v mX11_costOf (rmOf 2 0 0) (KM v Po noX 0 0) top 0 0 (mH v h m (S.s_pil p)) top 105 [some (.ref m), some (.int (nI wt)), some (.int (nI x)), some (.int (nI y)), some (.int (nI (mev S.ckd S.cwi wt x y k).length)), some (.int (nI k)), some (.int (nI (S.ckd k))), some (.int (nI (S.cwi k))), o8, none, o10, none] [.long (lI z), .int (nI (mev S.ckd S.cwi wt x y k).length), .ref (m + 7)] := by
            intro z hz
            refine r_last (pc := 105) (tX11_costOf.at 59 rfl) (mH_pil) ((mev S.ckd S.cwi wt x y k).length) (rfl) (by omega) (Nat.le_of_ble_eq_true rfl) ?_
            rw [show lF (S.s_pil p).pil = lF p from rfl, upd_lF, mH_spil]
            first | refine r_iincN (pc := 106) (tX11_costOf.at 60 rfl) rfl (by decide) ?_ | refine r_iinc (pc := 106) (tX11_costOf.at 60 rfl) rfl rfl (by decide) ?_
            refine r_goto (pc := 109) 208 (tX11_costOf.at 61 rfl) (by decide) ?_
            first | refine r_iincN (pc := 208) (tX11_costOf.at 113 rfl) rfl (by decide) ?_ | refine r_iinc (pc := 208) (tX11_costOf.at 113 rfl) rfl rfl (by decide) ?_
            refine r_goto (pc := 211) 16 (tX11_costOf.at 114 rfl) (by decide) ?_
            refine nx (upZ p (mev S.ckd S.cwi wt x y k).length z) _ _ _ _ (by omega) ?_
            rw [← hz]
            exact stk_push hs _
          have push : J v mX11_costOf (rmOf 2 0 0) (KM v Po noX 0 0) top 0 0 (mH v h m (S.s_pil p)) top 65 [some (.ref m), some (.int (nI wt)), some (.int (nI x)), some (.int (nI y)), some (.int (nI (mev S.ckd S.cwi wt x y k).length)), some (.int (nI k)), some (.int (nI (S.ckd k))), some (.int (nI (S.cwi k))), o8, none, o10, none] [] := by
            refine r_aload_n (pc := 65) (i := 0) (tX11_costOf.at 38 rfl) rfl rfl ?_
            refine r_get (pc := 66) (tX11_costOf.at 39 rfl) gf_X11_32 (mH_0) rfl ?_
            refine r_iload (pc := 69) (i := 4) (tX11_costOf.at 40 rfl) rfl ?_
            refine r_iload (pc := 71) (i := 6) (tX11_costOf.at 41 rfl) rfl ?_
            refine r_if_neN (pc := 73) 82 (tX11_costOf.at 42 rfl) (by decide) (by omega) (fun q1 => ?_) (fun q1 => ?_)
            · refine r_iload (pc := 82) (i := 7) (tX11_costOf.at 46 rfl) rfl ?_
              refine r_if_neN (pc := 84) 92 (tX11_costOf.at 47 rfl) (by decide) (by omega) (fun q2 => ?_) (fun q2 => ?_)
              · refine r_iload (pc := 92) (i := 7) (tX11_costOf.at 51 rfl) rfl ?_
                refine r_iconst (pc := 94) (w := nI 1) (tX11_costOf.at 52 rfl) (by decide) ?_
                refine r_icmp_neN (pc := 95) 103 (tX11_costOf.at 53 rfl) (by decide) (by omega) (by omega) (fun q3 => ?_) (fun q3 => ?_)
                · refine r_iload_n (pc := 103) (i := 3) (tX11_costOf.at 57 rfl) rfl rfl ?_
                  first | refine r_i2lN (pc := 104) (tX11_costOf.at 58 rfl) (by omega) ?_ | refine r_i2lZ (pc := 104) (tX11_costOf.at 58 rfl) ⟨by omega, by omega⟩ ?_ | refine r_i2l (pc := 104) (tX11_costOf.at 58 rfl) ?_
                  exact fin y (by rw [opdM, if_neg q1, if_neg q2, if_neg q3])
                · refine r_iload_n (pc := 98) (i := 2) (tX11_costOf.at 54 rfl) rfl rfl ?_
                  first | refine r_i2lN (pc := 99) (tX11_costOf.at 55 rfl) (by omega) ?_ | refine r_i2lZ (pc := 99) (tX11_costOf.at 55 rfl) ⟨by omega, by omega⟩ ?_ | refine r_i2l (pc := 99) (tX11_costOf.at 55 rfl) ?_
                  refine r_goto (pc := 100) 105 (tX11_costOf.at 56 rfl) (by decide) ?_
                  exact fin x (by rw [opdM, if_neg q1, if_neg q2, if_pos q3])
              · refine r_iload_n (pc := 87) (i := 1) (tX11_costOf.at 48 rfl) rfl rfl ?_
                first | refine r_i2lN (pc := 88) (tX11_costOf.at 49 rfl) (by omega) ?_ | refine r_i2lZ (pc := 88) (tX11_costOf.at 49 rfl) ⟨by omega, by omega⟩ ?_ | refine r_i2l (pc := 88) (tX11_costOf.at 49 rfl) ?_
                refine r_goto (pc := 89) 105 (tX11_costOf.at 50 rfl) (by decide) ?_
                exact fin wt (by rw [opdM, if_neg q1, if_pos q2])
            · refine r_iload (pc := 76) (i := 7) (tX11_costOf.at 43 rfl) rfl ?_
              first | refine r_i2lN (pc := 78) (tX11_costOf.at 44 rfl) (by omega) ?_ | refine r_i2lZ (pc := 78) (tX11_costOf.at 44 rfl) ⟨by omega, by omega⟩ ?_ | refine r_i2l (pc := 78) (tX11_costOf.at 44 rfl) ?_
              refine r_goto (pc := 79) 105 (tX11_costOf.at 45 rfl) (by decide) ?_
              exact fin (S.cwi k) (by rw [opdM, if_pos q1])
          refine r_istore (pc := 52) (i := 7) (tX11_costOf.at 32 rfl) (by decide) ?_
          refine r_iload (pc := 54) (i := 6) (tX11_costOf.at 33 rfl) rfl ?_
          refine r_if_eqN (pc := 56) 65 (tX11_costOf.at 34 rfl) (by decide) (by omega) (fun q0 => ?_) (fun q0 => ?_)
          · exact push
          · refine r_iload (pc := 59) (i := 6) (tX11_costOf.at 35 rfl) rfl ?_
            refine r_iconst (pc := 61) (w := nI 5) (tX11_costOf.at 36 rfl) (by decide) ?_
            refine r_icmp_neN (pc := 62) 112 (tX11_costOf.at 37 rfl) (by decide) (by omega) (by omega) (fun c => by omega) (fun _ => ?_)
            exact push
        · match hL : mev S.ckd S.cwi wt x y k with
          | [] => have := hc3 k wt x y (by omega) cp; rw [hL] at this; simp at this
          | [_] => have := hc3 k wt x y (by omega) cp; rw [hL] at this; simp at this
          | r :: l :: t =>
            rw [mev_op cp hL] at nx
            rw [hL] at hs hln
            have e1 : p (t.length + 1) = r := stk_top hs
            have e2 : p t.length = l := stk_top (stk_pop hs)
            have hlt : t.length + 2 ≤ k := hln
            have hl1 : (l :: t).length = t.length + 1 := rfl
            obtain ⟨br1, br2⟩ := hb k (by omega) r (by rw [hL]; exact List.mem_cons_self)
            obtain ⟨bl1, bl2⟩ := hb k (by omega) l (by rw [hL]; exact List.mem_cons_of_mem _ List.mem_cons_self)
            have hm := mul_b bl1 bl2 br1 br2
            have hd := tdiv_b (r := r) bl1 bl2
            have fin2 : ∀ z, z = opM (S.ckd k) l r → inL z → J v mX11_costOf (rmOf 2 0 0) (KM v Po noX 0 0) top 0 0 (mH v h m (S.s_pil p)) top 201 [some (.ref m), some (.int (nI wt)), some (.int (nI x)), some (.int (nI y)), some (.int (nI (t.length + 1))), some (.int (nI k)), some (.int (nI (S.ckd k))), some (.int (nI (S.cwi k))), some (.long (lI l)), none, some (.long (lI r)), none] [.long (lI z), .int (nI t.length), .ref (m + 7)] := by
              intro z hz hzL
              refine r_ldc2 (pc := 201) (tX11_costOf.at 110 rfl) lcL_X11_206 ?_
              refine r_callS (M' := mX11_within) (pc := 204) (tX11_costOf.at 111 rfl) ml_X11_208 rfl mw_X11_within ⟨by decide, by decide⟩ (c_mWithin hzL ⟨by omega, by omega⟩ ⟨by omega, by omega⟩) rfl rfl (Nat.le_of_ble_eq_true rfl) (Nat.le_of_ble_eq_true rfl) (Nat.le_of_ble_eq_true rfl) ?_
              rintro _ _ _ ⟨rfl, rfl, rfl⟩
              refine r_last (pc := 207) (tX11_costOf.at 112 rfl) (mH_pil) (t.length) (rfl) (by omega) (Nat.le_of_ble_eq_true rfl) ?_
              rw [show lF (S.s_pil p).pil = lF p from rfl, upd_lF, mH_spil]
              first | refine r_iincN (pc := 208) (tX11_costOf.at 113 rfl) rfl (by decide) ?_ | refine r_iinc (pc := 208) (tX11_costOf.at 113 rfl) rfl rfl (by decide) ?_
              refine r_goto (pc := 211) 16 (tX11_costOf.at 114 rfl) (by decide) ?_
              refine nx (upZ p t.length (wiI z 1000000)) _ _ _ _ (by omega) ?_
              rw [← hz]
              exact stk_push (stk_pop (stk_pop hs)) _
            refine r_istore (pc := 52) (i := 7) (tX11_costOf.at 32 rfl) (by decide) ?_
            refine r_iload (pc := 54) (i := 6) (tX11_costOf.at 33 rfl) rfl ?_
            refine r_if_eqN (pc := 56) 65 (tX11_costOf.at 34 rfl) (by decide) (by omega) (fun c => by omega) (fun _ => ?_)
            refine r_iload (pc := 59) (i := 6) (tX11_costOf.at 35 rfl) rfl ?_
            refine r_iconst (pc := 61) (w := nI 5) (tX11_costOf.at 36 rfl) (by decide) ?_
            refine r_icmp_neN (pc := 62) 112 (tX11_costOf.at 37 rfl) (by decide) (by omega) (by omega) (fun _ => ?_) (fun c => by omega)
            first | refine r_idecN (pc := 112) (tX11_costOf.at 62 rfl) rfl (by decide) ?_ | refine r_iinc (pc := 112) (tX11_costOf.at 62 rfl) rfl rfl (by decide) ?_
            refine r_aload_n (pc := 115) (i := 0) (tX11_costOf.at 63 rfl) rfl rfl ?_
            refine r_get (pc := 116) (tX11_costOf.at 64 rfl) gf_X11_32 (mH_0) rfl ?_
            refine r_iload (pc := 119) (i := 4) (tX11_costOf.at 65 rfl) rfl ?_
            refine r_iconst (pc := 121) (w := nI 1) (tX11_costOf.at 66 rfl) (by decide) ?_
            first | refine r_isubN (pc := 122) (tX11_costOf.at 67 rfl) (by omega) ?_ | refine r_isubZ (pc := 122) (tX11_costOf.at 67 rfl) ?_ | refine r_isub (pc := 122) (tX11_costOf.at 67 rfl) ?_
            refine r_lald (pc := 123) (tX11_costOf.at 68 rfl) (mH_pil) (t.length) (rfl) (by omega) (Nat.le_of_ble_eq_true rfl) ?_
            rw [show lF (S.s_pil p).pil t.length = lI l by rw [← e2]; rfl]
            refine r_lstore (pc := 124) (i := 8) (tX11_costOf.at 69 rfl) (by decide) ?_
            refine r_aload_n (pc := 126) (i := 0) (tX11_costOf.at 70 rfl) rfl rfl ?_
            refine r_get (pc := 127) (tX11_costOf.at 71 rfl) gf_X11_32 (mH_0) rfl ?_
            refine r_iload (pc := 130) (i := 4) (tX11_costOf.at 72 rfl) rfl ?_
            refine r_lald (pc := 132) (tX11_costOf.at 73 rfl) (mH_pil) (t.length + 1) (rfl) (by omega) (Nat.le_of_ble_eq_true rfl) ?_
            rw [show lF (S.s_pil p).pil (t.length + 1) = lI r by rw [← e1]; rfl]
            refine r_lstore (pc := 133) (i := 10) (tX11_costOf.at 74 rfl) (by decide) ?_
            refine r_aload_n (pc := 135) (i := 0) (tX11_costOf.at 75 rfl) rfl rfl ?_
            refine r_get (pc := 136) (tX11_costOf.at 76 rfl) gf_X11_32 (mH_0) rfl ?_
            refine r_iload (pc := 139) (i := 4) (tX11_costOf.at 77 rfl) rfl ?_
            refine r_iconst (pc := 141) (w := nI 1) (tX11_costOf.at 78 rfl) (by decide) ?_
            first | refine r_isubN (pc := 142) (tX11_costOf.at 79 rfl) (by omega) ?_ | refine r_isubZ (pc := 142) (tX11_costOf.at 79 rfl) ?_ | refine r_isub (pc := 142) (tX11_costOf.at 79 rfl) ?_
            refine r_iload (pc := 143) (i := 6) (tX11_costOf.at 80 rfl) rfl ?_
            refine r_iconst (pc := 145) (w := nI 1) (tX11_costOf.at 81 rfl) (by decide) ?_
            refine r_icmp_neN (pc := 146) 157 (tX11_costOf.at 82 rfl) (by decide) (by omega) (by omega) (fun q1 => ?_) (fun q1 => ?_)
            · refine r_iload (pc := 157) (i := 6) (tX11_costOf.at 87 rfl) rfl ?_
              refine r_iconst (pc := 159) (w := nI 2) (tX11_costOf.at 88 rfl) (by decide) ?_
              refine r_icmp_neN (pc := 160) 171 (tX11_costOf.at 89 rfl) (by decide) (by omega) (by omega) (fun q2 => ?_) (fun q2 => ?_)
              · refine r_iload (pc := 171) (i := 6) (tX11_costOf.at 94 rfl) rfl ?_
                refine r_iconst (pc := 173) (w := nI 3) (tX11_costOf.at 95 rfl) (by decide) ?_
                refine r_icmp_neN (pc := 174) 185 (tX11_costOf.at 96 rfl) (by decide) (by omega) (by omega) (fun q3 => ?_) (fun q3 => ?_)
                · refine r_lload (pc := 185) (i := 10) (tX11_costOf.at 101 rfl) rfl ?_
                  refine r_lconst (pc := 187) (w := lI 0) (tX11_costOf.at 102 rfl) (by decide) ?_
                  refine r_lc_ne (pc := 188) 196 (tX11_costOf.at 103 rfl) (tX11_costOf.at 104 rfl) (by decide) (⟨by omega, by omega⟩) (⟨by omega, by omega⟩) (fun q4 => ?_) (fun q4 => ?_)
                  · refine r_lload (pc := 196) (i := 8) (tX11_costOf.at 107 rfl) rfl ?_
                    refine r_lload (pc := 198) (i := 10) (tX11_costOf.at 108 rfl) rfl ?_
                    refine r_ldivL (pc := 200) (tX11_costOf.at 109 rfl) (⟨by omega, by omega⟩) (⟨by omega, by omega⟩) (q4) ?_
                    exact fin2 _ (by rw [opM, if_neg q1, if_neg q2, if_neg q3, if_neg q4]) ⟨by omega, by omega⟩
                  · refine r_lconst (pc := 192) (w := lI 0) (tX11_costOf.at 105 rfl) (by decide) ?_
                    refine r_goto (pc := 193) 201 (tX11_costOf.at 106 rfl) (by decide) ?_
                    exact fin2 _ (by rw [opM, if_neg q1, if_neg q2, if_neg q3, if_pos q4]) ⟨by omega, by omega⟩
                · refine r_lload (pc := 177) (i := 8) (tX11_costOf.at 97 rfl) rfl ?_
                  refine r_lload (pc := 179) (i := 10) (tX11_costOf.at 98 rfl) rfl ?_
                  first | refine r_lmulL (pc := 181) (tX11_costOf.at 99 rfl) ?_ | refine r_lmul (pc := 181) (tX11_costOf.at 99 rfl) ?_
                  refine r_goto (pc := 182) 201 (tX11_costOf.at 100 rfl) (by decide) ?_
                  exact fin2 _ (by rw [opM, if_neg q1, if_neg q2, if_pos q3]) ⟨by omega, by omega⟩
              · refine r_lload (pc := 163) (i := 8) (tX11_costOf.at 90 rfl) rfl ?_
                refine r_lload (pc := 165) (i := 10) (tX11_costOf.at 91 rfl) rfl ?_
                first | refine r_lsubL (pc := 167) (tX11_costOf.at 92 rfl) ?_ | refine r_lsub (pc := 167) (tX11_costOf.at 92 rfl) ?_
                refine r_goto (pc := 168) 201 (tX11_costOf.at 93 rfl) (by decide) ?_
                exact fin2 _ (by rw [opM, if_neg q1, if_pos q2]) ⟨by omega, by omega⟩
            · refine r_lload (pc := 149) (i := 8) (tX11_costOf.at 83 rfl) rfl ?_
              refine r_lload (pc := 151) (i := 10) (tX11_costOf.at 84 rfl) rfl ?_
              first | refine r_laddL (pc := 153) (tX11_costOf.at 85 rfl) ?_ | refine r_ladd (pc := 153) (tX11_costOf.at 85 rfl) ?_
              refine r_goto (pc := 154) 201 (tX11_costOf.at 86 rfl) (by decide) ?_
              exact fin2 _ (by rw [opM, if_pos q1]) ⟨by omega, by omega⟩
    refine r_iconst (pc := 10) (w := nI 0) (tX11_costOf.at 6 rfl) (by decide) ?_
    refine r_istore (pc := 11) (i := 4) (tX11_costOf.at 7 rfl) (by decide) ?_
    refine r_iconst (pc := 13) (w := nI 0) (tX11_costOf.at 8 rfl) (by decide) ?_
    refine r_istore (pc := 14) (i := 5) (tX11_costOf.at 9 rfl) (by decide) ?_
    exact key (S.rw 3) 0 S.pil _ _ _ _ (by omega) (fun i z hz => by simp [mev] at hz)
  · refine r_iconst (pc := 8) (w := nI 1) (tX11_costOf.at 4 rfl) (by decide) ?_
    refine r_iret (pc := 9) (tX11_costOf.at 5 rfl) rfl (Nat.le_of_ble_eq_true rfl) (Nat.le_of_ble_eq_true rfl) ?_
    subst hPo
    exact ⟨by rw [MS.mcs, if_pos c0], rfl, S.pil, rfl⟩
end

