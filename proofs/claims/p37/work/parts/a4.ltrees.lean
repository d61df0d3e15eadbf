/-! ===== the law: treesOf ===== -/
/-- the label a for each b -/
def mgL (n a b : Nat) (l : Nat → Nat) : Nat → Nat := fun u => if u < n ∧ l u = b then a else l u
/-- deletion and contraction, over the last k edges -/
def TF (S : LT) : Nat → Nat → (Nat → Nat) → Int
  | 0, left, _ => if left = 0 then 1 else 0
  | k + 1, left, l => if left = 0 then 1 else if l (S.E (2 * (S.e - (k + 1)))) = l (S.E (2 * (S.e - (k + 1)) + 1)) then TF S k left l else TF S k left l + (S.T (S.e - (k + 1)) : Nat) * TF S k (left - 1) (mgL S.n (l (S.E (2 * (S.e - (k + 1))))) (l (S.E (2 * (S.e - (k + 1)) + 1))) l)
theorem mg_step {n a b u : Nat} {l : Nat → Nat} {lf : Nat → Int32} (f : Nat → Int32) (hu : u < n) (hf : ∀ k, f k = if k < u ∧ l k = b then nI a else lf k) (hl : ∀ k, k < n → lf k = nI (l k)) :
    (l u = b → ∀ k, upd f u (nI a) k = if k < u + 1 ∧ l k = b then nI a else lf k) ∧ (l u ≠ b → ∀ k, f k = if k < u + 1 ∧ l k = b then nI a else lf k) := by
  refine ⟨fun e k => ?_, fun e k => ?_⟩
  · unfold upd
    by_cases c : k = u
    · rw [if_pos c, c, if_pos ⟨by omega, e⟩]
    · rw [if_neg c, hf k]
      by_cases d : k < u ∧ l k = b
      · rw [if_pos d, if_pos ⟨by omega, d.2⟩]
      · rw [if_neg d, if_neg (fun q => d ⟨by omega, q.2⟩)]
  · rw [hf k]
    by_cases d : k < u ∧ l k = b
    · rw [if_pos d, if_pos ⟨by omega, d.2⟩]
    · rw [if_neg d, if_neg (fun q => d ⟨by
        have : k ≠ u := fun z => e (by rw [← z]; exact q.2)
        omega, q.2⟩)]
theorem c_trees {v : Ev} {y : Nat} {S : LT} (hn : S.n ≤ 6) (he : S.e ≤ 15) (hE : ∀ i, i < 30 → i < 2 * S.e → S.E i < S.n) (hT : ∀ k, k < 15 → S.T k ≤ 1000) : ∀ k, k ≤ S.e → ∀ (h : Hp) (top left lq : Nat) (l : Nat → Nat) (lf : Nat → Int32), isLw v h y S → y + 18 ≤ top → left ≤ 10 → h lq = some (aI v S.n lf) → (∀ u, u < S.n → lf u = nI (l u)) → (∀ u, u < S.n → l u < 6) →
    Cal v mL_treesOf (k + 2) (2 ^ k - 1) (6 * (2 ^ k - 1)) [.ref y, .int (nI (S.e - k)), .int (nI left), .ref lq] h top (fun r h' top' => r = some (.long (lI (TF S k left l))) ∧ top ≤ top' ∧ ∀ a, a < top → h' a = h a) noX := by
  intro k
  induction k with
  | zero =>
    intro hk h top left lq l lf L hyt hleft hq hlf hl6
    refine Cal.ofJ (by decide +kernel) rfl (Nat.le_of_ble_eq_true rfl) fun hz0 => ?_
    refine r_ls [some (.ref y), some (.int (nI (S.e - 0))), some (.int (nI left)), some (.ref lq), none, none, none, none, none, none] rfl ?_
    refine r_iload_n (pc := 0) (i := 2) (tL_treesOf.at 0 rfl) rfl rfl ?_
    refine r_if_neN (pc := 1) 6 (tL_treesOf.at 1 rfl) (by decide) (by omega) (fun c => ?_) (fun c => ?_)
    · refine r_iload_n (pc := 6) (i := 1) (tL_treesOf.at 4 rfl) rfl rfl ?_
      refine r_aload_n (pc := 7) (i := 0) (tL_treesOf.at 5 rfl) rfl rfl ?_
      refine r_get (pc := 8) (tL_treesOf.at 6 rfl) gf_L_81 (L.1) rfl ?_
      refine r_icmp_neN (pc := 11) 16 (tL_treesOf.at 7 rfl) (by decide) (by omega) (by omega) (fun c => by omega) (fun _ => ?_)
      refine r_lconst (pc := 14) (w := lI 0) (tL_treesOf.at 8 rfl) (by decide) ?_
      refine r_lret (pc := 15) (tL_treesOf.at 9 rfl) rfl (Nat.le_of_ble_eq_true rfl) (Nat.le_of_ble_eq_true rfl) ?_
      refine ⟨?_, Nat.le_refl _, fun _ _ => rfl⟩
      rw [TF, if_neg c]
    · refine r_lconst (pc := 4) (w := lI 1) (tL_treesOf.at 2 rfl) (by decide) ?_
      refine r_lret (pc := 5) (tL_treesOf.at 3 rfl) rfl (Nat.le_of_ble_eq_true rfl) (Nat.le_of_ble_eq_true rfl) ?_
      refine ⟨?_, Nat.le_refl _, fun _ _ => rfl⟩
      rw [TF, if_pos c]
  | succ k ih =>
    intro hk h top left lq l lf L hyt hleft hq hlf hl6
    have hp1 : 2 ^ (k + 1) = 2 * 2 ^ k := by rw [Nat.pow_succ]; omega
    have hp0 : 1 ≤ 2 ^ k := Nat.one_le_two_pow
    refine Cal.ofJ (by decide +kernel) rfl (Nat.le_of_ble_eq_true rfl) fun hz0 => ?_
    refine r_ls [some (.ref y), some (.int (nI (S.e - (k + 1)))), some (.int (nI left)), some (.ref lq), none, none, none, none, none, none] rfl ?_
    refine r_lt hq (fun _ hqt => ?_)
    refine r_iload_n (pc := 0) (i := 2) (tL_treesOf.at 0 rfl) rfl rfl ?_
    refine r_if_neN (pc := 1) 6 (tL_treesOf.at 1 rfl) (by decide) (by omega) (fun c => ?_) (fun c => ?_)
    · refine r_iload_n (pc := 6) (i := 1) (tL_treesOf.at 4 rfl) rfl rfl ?_
      refine r_aload_n (pc := 7) (i := 0) (tL_treesOf.at 5 rfl) rfl rfl ?_
      refine r_get (pc := 8) (tL_treesOf.at 6 rfl) gf_L_81 (L.1) rfl ?_
      refine r_icmp_neN (pc := 11) 16 (tL_treesOf.at 7 rfl) (by decide) (by omega) (by omega) (fun _ => ?_) (fun c => by omega)
      generalize hf : S.e - (k + 1) = f at *
      have hfe : f + 1 = S.e - k := by omega
      have hEa := hE (2 * f) (by omega) (by omega)
      have hEb := hE (2 * f + 1) (by omega) (by omega)
      generalize hga : S.E (2 * f) = ga at *
      generalize hgb : S.E (2 * f + 1) = gb at *
      have hla := hl6 ga hEa
      have hlb := hl6 gb hEb
      refine r_aload_n (pc := 16) (i := 3) (tL_treesOf.at 10 rfl) rfl rfl ?_
      refine r_aload_n (pc := 17) (i := 0) (tL_treesOf.at 11 rfl) rfl rfl ?_
      refine r_get (pc := 18) (tL_treesOf.at 12 rfl) gf_L_21 (L.1) rfl ?_
      refine r_iconst (pc := 21) (w := nI 2) (tL_treesOf.at 13 rfl) (by decide) ?_
      refine r_iload_n (pc := 22) (i := 1) (tL_treesOf.at 14 rfl) rfl rfl ?_
      first | refine r_imulN (pc := 23) (tL_treesOf.at 15 rfl) ?_ | refine r_imulZ (pc := 23) (tL_treesOf.at 15 rfl) ?_ | refine r_imul (pc := 23) (tL_treesOf.at 15 rfl) ?_
      refine r_iald (pc := 24) (tL_treesOf.at 16 rfl) L.2.2.2.2.2.2.1 (2 * f) rfl (by omega) (by omega) ?_
      rw [show iF S.E (2 * f) = nI ga from congrArg nI hga]
      refine r_iald (pc := 25) (tL_treesOf.at 17 rfl) hq ga rfl hEa (by omega) ?_
      rw [hlf ga hEa]
      refine r_istore (pc := 26) (i := 4) (tL_treesOf.at 18 rfl) (by decide) ?_
      refine r_aload_n (pc := 28) (i := 3) (tL_treesOf.at 19 rfl) rfl rfl ?_
      refine r_aload_n (pc := 29) (i := 0) (tL_treesOf.at 20 rfl) rfl rfl ?_
      refine r_get (pc := 30) (tL_treesOf.at 21 rfl) gf_L_21 (L.1) rfl ?_
      refine r_iconst (pc := 33) (w := nI 2) (tL_treesOf.at 22 rfl) (by decide) ?_
      refine r_iload_n (pc := 34) (i := 1) (tL_treesOf.at 23 rfl) rfl rfl ?_
      first | refine r_imulN (pc := 35) (tL_treesOf.at 24 rfl) ?_ | refine r_imulZ (pc := 35) (tL_treesOf.at 24 rfl) ?_ | refine r_imul (pc := 35) (tL_treesOf.at 24 rfl) ?_
      refine r_iconst (pc := 36) (w := nI 1) (tL_treesOf.at 25 rfl) (by decide) ?_
      first | refine r_iaddN (pc := 37) (tL_treesOf.at 26 rfl) ?_ | refine r_iaddZ (pc := 37) (tL_treesOf.at 26 rfl) ?_ | refine r_iadd (pc := 37) (tL_treesOf.at 26 rfl) ?_
      refine r_iald (pc := 38) (tL_treesOf.at 27 rfl) L.2.2.2.2.2.2.1 (2 * f + 1) rfl (by omega) (by omega) ?_
      rw [show iF S.E (2 * f + 1) = nI gb from congrArg nI hgb]
      refine r_iald (pc := 39) (tL_treesOf.at 28 rfl) hq gb rfl hEb (by omega) ?_
      rw [hlf gb hEb]
      refine r_istore (pc := 40) (i := 5) (tL_treesOf.at 29 rfl) (by decide) ?_
      refine r_aload_n (pc := 42) (i := 0) (tL_treesOf.at 30 rfl) rfl rfl ?_
      refine r_iload_n (pc := 43) (i := 1) (tL_treesOf.at 31 rfl) rfl rfl ?_
      refine r_iconst (pc := 44) (w := nI 1) (tL_treesOf.at 32 rfl) (by decide) ?_
      first | refine r_iaddN (pc := 45) (tL_treesOf.at 33 rfl) ?_ | refine r_iaddZ (pc := 45) (tL_treesOf.at 33 rfl) ?_ | refine r_iadd (pc := 45) (tL_treesOf.at 33 rfl) ?_
      refine r_iload_n (pc := 46) (i := 2) (tL_treesOf.at 34 rfl) rfl rfl ?_
      refine r_aload_n (pc := 47) (i := 3) (tL_treesOf.at 35 rfl) rfl rfl ?_
      rw [hfe]
      refine r_callV (M' := mL_treesOf) (pc := 48) (tL_treesOf.at 36 rfl) ml_L_84 rfl mw_L_treesOf (fits_rm (by omega) (by decide)) L.1 rfl rfl (ih (by omega) h top left lq l lf L hyt hleft hq hlf hl6) rfl rfl (Nat.le_of_ble_eq_true rfl) (by show 0 + (2 ^ k - 1) ≤ 2 ^ (k + 1) - 1; omega) (by show 0 + 6 * (2 ^ k - 1) ≤ 6 * (2 ^ (k + 1) - 1); omega) ?_
      rintro _ h1 top1 ⟨rfl, t1, f1⟩
      have L1 : isLw v h1 y S := L.agr fun a q1 q2 => f1 a (by omega)
      refine r_lstore (pc := 51) (i := 6) (tL_treesOf.at 37 rfl) (by decide) ?_
      refine r_iload (pc := 53) (i := 4) (tL_treesOf.at 38 rfl) rfl ?_
      refine r_iload (pc := 55) (i := 5) (tL_treesOf.at 39 rfl) rfl ?_
      refine r_icmp_neN (pc := 57) 63 (tL_treesOf.at 40 rfl) (by decide) (by omega) (by omega) (fun cn => ?_) (fun ce => ?_)
      · have hq1 : h1 lq = some (aI v S.n lf) := (f1 lq hqt).trans hq
        refine r_aload_n (pc := 63) (i := 3) (tL_treesOf.at 43 rfl) rfl rfl ?_
        refine r_cloneI (pc := 64) (tL_treesOf.at 44 rfl) ml_L_88 hq1 (by show 1 ≤ k + 1 + 2; omega) (by show 0 + 14 ≤ 60 * (k + 1 + 2); omega) (by show 0 + (2 ^ k - 1) + 1 ≤ 2 ^ (k + 1) - 1; omega) (by show 0 + 6 * (2 ^ k - 1) + S.n ≤ 6 * (2 ^ (k + 1) - 1); omega) (fun fr64 => ?_)
        refine r_castI (pc := 67) (tL_treesOf.at 45 rfl) kl_L_89 (hp_eq _ _ _) ?_
        refine r_widen (c2 := 2 ^ k) (s2 := 6 * 2 ^ k) (by omega) (by omega) ?_
        refine r_astore (pc := 70) (i := 8) (tL_treesOf.at 46 rfl) (by decide) ?_
        refine r_iconst (pc := 72) (w := nI 0) (tL_treesOf.at 47 rfl) (by decide) ?_
        refine r_istore (pc := 73) (i := 9) (tL_treesOf.at 48 rfl) (by decide) ?_
        have key : ∀ u, u ≤ S.n → ∀ f9 : Nat → Int32, (∀ j, f9 j = if j < u ∧ l j = l gb then nI (l ga) else lf j) → J v mL_treesOf (rmOf (k + 1 + 2) (2 ^ (k + 1) - 1) (6 * (2 ^ (k + 1) - 1))) (KM v (fun r h' top' => r = some (.long (lI (TF S (k + 1) left l))) ∧ top ≤ top' ∧ ∀ a, a < top → h' a = h a) noX (2 ^ (k + 1) - 1) (6 * (2 ^ (k + 1) - 1))) top (2 ^ k) (6 * 2 ^ k) (hp h1 top1 (aI v S.n f9)) (top1 + 1) 75 [some (.ref y), some (.int (nI f)), some (.int (nI left)), some (.ref lq), some (.int (nI (l ga))), some (.int (nI (l gb))), some (.long (lI (TF S k left l))), none, some (.ref top1), some (.int (nI u))] [] := by
          refine down ?_ ?_
          · intro f9 hf9
            have L2 : isLw v (hp h1 top1 (aI v S.n f9)) y S := L1.up (by omega)
            have hTf := hT f (by omega)
            refine r_iload (pc := 75) (i := 9) (tL_treesOf.at 49 rfl) rfl ?_
            refine r_aload_n (pc := 77) (i := 0) (tL_treesOf.at 50 rfl) rfl rfl ?_
            refine r_get (pc := 78) (tL_treesOf.at 51 rfl) gf_L_52 (L2.1) rfl ?_
            refine r_icmp_geN (pc := 81) 107 (tL_treesOf.at 52 rfl) (by decide) (by omega) (by omega) (fun _ => ?_) (fun c => by omega)
            refine r_lload (pc := 107) (i := 6) (tL_treesOf.at 64 rfl) rfl ?_
            refine r_aload_n (pc := 109) (i := 0) (tL_treesOf.at 65 rfl) rfl rfl ?_
            refine r_get (pc := 110) (tL_treesOf.at 66 rfl) gf_L_24 (L2.1) rfl ?_
            refine r_iload_n (pc := 113) (i := 1) (tL_treesOf.at 67 rfl) rfl rfl ?_
            refine r_iald (pc := 114) (tL_treesOf.at 68 rfl) (L2.2.2.2.2.2.2.2) (f) (rfl) (by omega) (by omega) ?_
            refine r_i2lN (pc := 115) (tL_treesOf.at 69 rfl) (show S.T f < 2147483648 by omega) ?_
            refine r_aload_n (pc := 116) (i := 0) (tL_treesOf.at 70 rfl) rfl rfl ?_
            refine r_iload_n (pc := 117) (i := 1) (tL_treesOf.at 71 rfl) rfl rfl ?_
            refine r_iconst (pc := 118) (w := nI 1) (tL_treesOf.at 72 rfl) (by decide) ?_
            first | refine r_iaddN (pc := 119) (tL_treesOf.at 73 rfl) ?_ | refine r_iaddZ (pc := 119) (tL_treesOf.at 73 rfl) ?_ | refine r_iadd (pc := 119) (tL_treesOf.at 73 rfl) ?_
            refine r_iload_n (pc := 120) (i := 2) (tL_treesOf.at 74 rfl) rfl rfl ?_
            refine r_iconst (pc := 121) (w := nI 1) (tL_treesOf.at 75 rfl) (by decide) ?_
            first | refine r_isubN (pc := 122) (tL_treesOf.at 76 rfl) (by omega) ?_ | refine r_isubZ (pc := 122) (tL_treesOf.at 76 rfl) ?_ | refine r_isub (pc := 122) (tL_treesOf.at 76 rfl) ?_
            refine r_aload (pc := 123) (i := 8) (tL_treesOf.at 77 rfl) rfl ?_
            rw [hfe]
            refine r_callV (M' := mL_treesOf) (pc := 125) (tL_treesOf.at 78 rfl) ml_L_84 rfl mw_L_treesOf (fits_rm (by omega) (by decide)) L2.1 rfl rfl (ih (by omega) (hp h1 top1 (aI v S.n f9)) (top1 + 1) (left - 1) top1 (mgL S.n (l ga) (l gb) l) f9 L2 (by omega) (by omega) (hp_eq _ _ _) (fun u hu => by
              rw [hf9 u]
              unfold mgL
              by_cases d : u < S.n ∧ l u = l gb
              · rw [if_pos d, if_pos d]
              · rw [if_neg d, if_neg d, hlf u hu]) (fun u hu => by
              unfold mgL
              split
              · exact hla
              · exact hl6 u hu)) rfl rfl (Nat.le_of_ble_eq_true rfl) (by show 2 ^ k + (2 ^ k - 1) ≤ 2 ^ (k + 1) - 1; omega) (by show 6 * 2 ^ k + 6 * (2 ^ k - 1) ≤ 6 * (2 ^ (k + 1) - 1); omega) ?_
            rintro _ h3 top3 ⟨rfl, t3, f3⟩
            first | refine r_lmulL (pc := 128) (tL_treesOf.at 79 rfl) ?_ | refine r_lmul (pc := 128) (tL_treesOf.at 79 rfl) ?_
            first | refine r_laddL (pc := 129) (tL_treesOf.at 80 rfl) ?_ | refine r_ladd (pc := 129) (tL_treesOf.at 80 rfl) ?_
            refine r_lret (pc := 130) (tL_treesOf.at 81 rfl) rfl (by omega) (by omega) ?_
            refine ⟨?_, by omega, fun a ha => ?_⟩
            · rw [TF, if_neg c, hf, hga, hgb, if_neg cn]
            · rw [f3 a (by omega), hp_ne _ _ (by omega), f1 a ha]
          · intro u hu ihu f9 hf9
            have L2 : isLw v (hp h1 top1 (aI v S.n f9)) y S := L1.up (by omega)
            obtain ⟨s1, s2⟩ := mg_step (n := S.n) f9 hu hf9 hlf
            have hu6 := hl6 u hu
            have hfu : f9 u = nI (l u) := by rw [hf9 u, if_neg (by omega), hlf u hu]
            refine r_iload (pc := 75) (i := 9) (tL_treesOf.at 49 rfl) rfl ?_
            refine r_aload_n (pc := 77) (i := 0) (tL_treesOf.at 50 rfl) rfl rfl ?_
            refine r_get (pc := 78) (tL_treesOf.at 51 rfl) gf_L_52 (L2.1) rfl ?_
            refine r_icmp_geN (pc := 81) 107 (tL_treesOf.at 52 rfl) (by decide) (by omega) (by omega) (fun c => by omega) (fun _ => ?_)
            refine r_aload (pc := 84) (i := 8) (tL_treesOf.at 53 rfl) rfl ?_
            refine r_iload (pc := 86) (i := 9) (tL_treesOf.at 54 rfl) rfl ?_
            refine r_iald (pc := 88) (tL_treesOf.at 55 rfl) (hp_eq _ _ _) (u) (rfl) (by omega) (by omega) ?_
            rw [hfu]
            refine r_iload (pc := 89) (i := 5) (tL_treesOf.at 56 rfl) rfl ?_
            refine r_icmp_neN (pc := 91) 101 (tL_treesOf.at 57 rfl) (by decide) (by omega) (by omega) (fun c3 => ?_) (fun c3 => ?_)
            · first | refine r_iincN (pc := 101) (tL_treesOf.at 62 rfl) rfl (by decide) ?_ | refine r_iinc (pc := 101) (tL_treesOf.at 62 rfl) rfl rfl (by decide) ?_
              refine r_goto (pc := 104) 75 (tL_treesOf.at 63 rfl) (by decide) ?_
              exact ihu f9 (s2 c3)
            · refine r_aload (pc := 94) (i := 8) (tL_treesOf.at 58 rfl) rfl ?_
              refine r_iload (pc := 96) (i := 9) (tL_treesOf.at 59 rfl) rfl ?_
              refine r_iload (pc := 98) (i := 4) (tL_treesOf.at 60 rfl) rfl ?_
              refine r_iast (pc := 100) (tL_treesOf.at 61 rfl) (hp_eq _ _ _) (u) (rfl) (by omega) (by omega) ?_
              rw [hp_hp]
              first | refine r_iincN (pc := 101) (tL_treesOf.at 62 rfl) rfl (by decide) ?_ | refine r_iinc (pc := 101) (tL_treesOf.at 62 rfl) rfl rfl (by decide) ?_
              refine r_goto (pc := 104) 75 (tL_treesOf.at 63 rfl) (by decide) ?_
              exact ihu _ (s1 c3)
        exact key 0 (by omega) lf (fun j => by rw [if_neg (by omega)])
      · refine r_lload (pc := 60) (i := 6) (tL_treesOf.at 41 rfl) rfl ?_
        refine r_lret (pc := 62) (tL_treesOf.at 42 rfl) rfl (by omega) (by omega) ?_
        refine ⟨?_, t1, f1⟩
        rw [TF, if_neg c, hf, hga, hgb, if_pos ce]
    · refine r_lconst (pc := 4) (w := lI 1) (tL_treesOf.at 2 rfl) (by decide) ?_
      refine r_lret (pc := 5) (tL_treesOf.at 3 rfl) rfl (Nat.le_of_ble_eq_true rfl) (Nat.le_of_ble_eq_true rfl) ?_
      refine ⟨?_, Nat.le_refl _, fun _ _ => rfl⟩
      rw [TF, if_pos c]

