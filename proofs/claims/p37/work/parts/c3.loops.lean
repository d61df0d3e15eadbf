/-! ===== the law: the loops over the pairs ===== -/
def cP (v : Ev) (a b : Nat) : Int32 := scF v (1 + (5 * a + b) % 9) >>> (nI (a + 2 * b) &&& 31)
def pWv (v : Ev) (a b : Nat) : Nat := if cP v a b &&& nI 3 = 0 then 0 else 1 + bnd (cP v a b >>> (nI 2 &&& 31)) 9
def pFv (v : Ev) (a b : Nat) : Bool := decide (¬ cP v a b &&& nI 8 = 0)
theorem pWv_le (v : Ev) (a b : Nat) : pWv v a b ≤ 9 := by
  unfold pWv bnd
  split
  · omega
  · have := Nat.mod_lt (low31 (cP v a b >>> (nI 2 &&& 31))) (show 0 < 9 by decide)
    omega
abbrev lwM (v : Ev) (x n sb a : Nat) (b c w : Option Value) : List (Option Value) := [some (.ref (oA v 98)), some (.ref x), some (.ref (x + 96)), some (.int (nI n)), some (.ref sb), some (.int (nI a)), b, c, w]
/-- where the loops over the pairs stand -/
def LI (v : Ev) (h : Hp) (top x n sb : Nat) (P : List (Nat × Nat)) : Prop := okX v h x (Z0 v) ∧ isLw v h (x + 96) (LSt n (pWv v) P) ∧ isSB v h (x + 114) sb (wkTx n ++ edT (prE (pWv v) (pFv v) P)) ∧ x + 114 ≤ top
theorem edl_len (w : Nat → Nat → Nat) : ∀ P, (edl w P).length ≤ P.length
  | [] => Nat.le_refl _
  | p :: P => by
    have e0 : edl w (p :: P) = (if w p.1 p.2 = 0 then [] else [(p.1, p.2, w p.1 p.2)]) ++ edl w P := by
      unfold edl
      rw [List.flatMap_cons]
    have ih := edl_len w P
    rw [e0, List.length_append, List.length_cons]
    split
    · show 0 + _ ≤ _
      omega
    · show 1 + _ ≤ _
      omega
theorem edT_len : ∀ l, (edT l).length = 11 * l.length
  | [] => rfl
  | e :: l => by
    show (edTx e.1 e.2.1 e.2.2 ++ edT l).length = _
    rw [List.length_append, edT_len l, List.length_cons]
    show 11 + _ = _
    omega
theorem edT_snoc (l : List (Nat × Nat × Nat)) (e : Nat × Nat × Nat) : edT (l ++ [e]) = edT l ++ edTx e.1 e.2.1 e.2.2 := by
  unfold edT
  rw [List.flatMap_append]
  simp
theorem LI.e9 {v : Ev} {n : Nat} {P : List (Nat × Nat)} (hn : n ≤ 5) (ok : okP n P) : (LSt n (pWv v) P).e ≤ P.length ∧ (∀ u, u < 6 → (LSt n (pWv v) P).D u ≤ 1000) ∧ (prE (pWv v) (pFv v) P).length ≤ P.length := by
  have I := LSt_inv (w := pWv v) (show n ≤ 6 by omega) P.length P rfl ok
  have h1 := edl_len (pWv v) P
  refine ⟨by rw [I.2.2.2.2.1]; exact h1, fun u hu => ?_, ?_⟩
  · rw [I.2.2.2.1 u hu]
    unfold degN
    have := sN_le (f := fun k => (LSt n (pWv v) P).W (u * 6 + k)) (c := 9) 6 (fun k hk => by
      rw [I.2.1 u k hu hk]
      exact wq_le (pWv_le v) _ _)
    omega
  · have := (prE_v (f := pFv v) (w := pWv v) (G0 := (GT.sW (G0 v) (fun _ => 0)).sc 0 0 0 0) (show n ≤ 6 by omega) ⟨fun _ _ => rfl, rfl⟩ (pWv_le v) P.length P rfl ok).2
    omega
theorem law_inner {v : Ev} {x n sb a : Nat} (hN : scN v ≤ 260) (hn : 2 ≤ n ∧ n ≤ 5) (ha : a < n)
    (kk : ∀ (h : Hp) (top : Nat) (c w : Option Value) (cells slots : Nat), LI v h top x n sb (allP n a ++ rowP a n) → cells ≤ 300 + 7 * (allP n a ++ rowP a n).length → slots ≤ 30000 + 2800 * (allP n a ++ rowP a n).length → J v mL_law room_1 (lwK v) (z0 v) cells slots h top 368 (lwL v x n sb a n c w) []) :
    ∀ m b, b + m = n → a < b → ∀ (h : Hp) (top : Nat) (c w : Option Value) (cells slots : Nat), LI v h top x n sb (allP n a ++ rowP a b) → cells ≤ 300 + 7 * (allP n a ++ rowP a b).length → slots ≤ 30000 + 2800 * (allP n a ++ rowP a b).length → J v mL_law room_1 (lwK v) (z0 v) cells slots h top 84 (lwL v x n sb a b c w) [] := by
  intro m
  induction m with
  | zero =>
    intro b hb hab h top c w cells slots I hc hs
    have hb : b = n := by omega
    subst hb
    refine r_iload (pc := 84) (i := 6) (tL_law.at 43 rfl) rfl ?_
    refine r_iload_n (pc := 86) (i := 3) (tL_law.at 44 rfl) rfl rfl ?_
    refine r_icmp_geN (pc := 87) 368 (tL_law.at 45 rfl) (by decide) (by omega) (by omega) (fun _ => ?_) (fun c => by omega)
    exact kk h top c w cells slots I hc hs
  | succ m ih =>
    intro b hb hab h top c w cells slots I hc hs
    obtain ⟨K, L, B, ht⟩ := I
    have hb5 : b < n := by omega
    obtain ⟨okb, -⟩ := pfx_ok n (by omega) a (by omega) b (by omega)
    obtain ⟨okb2, len2⟩ := pfx_ok n (by omega) a (by omega) (b + 1) (by omega)
    have ok := okPb_ok okb
    have len9 : (allP n a ++ rowP a b).length ≤ 9 := by
      rcases pfx_lt n (by omega) a ha b hb5 with z | z
      · omega
      · exact z
    have er : allP n a ++ rowP a (b + 1) = (allP n a ++ rowP a b) ++ [(a, b)] := by
      rw [rowP, if_pos hab, List.append_assoc]
    generalize hP : allP n a ++ rowP a b = P at K L B ok len9 er hc hs
    have lenP : (allP n a ++ rowP a (b + 1)).length = P.length + 1 := by rw [er, List.length_append]; rfl
    obtain ⟨he, hD, hpl⟩ := LI.e9 (v := v) hn.2 ok
    refine r_iload (pc := 84) (i := 6) (tL_law.at 43 rfl) rfl ?_
    refine r_iload_n (pc := 86) (i := 3) (tL_law.at 44 rfl) rfl rfl ?_
    refine r_icmp_geN (pc := 87) 368 (tL_law.at 45 rfl) (by decide) (by omega) (by omega) (fun c => by omega) (fun _ => ?_)
    refine r_aload_n (pc := 90) (i := 0) (tL_law.at 46 rfl) rfl rfl ?_
    refine r_iconst (pc := 91) (w := nI 1) (tL_law.at 47 rfl) (by decide) ?_
    refine r_iconst (pc := 92) (w := nI 5) (tL_law.at 48 rfl) (by decide) ?_
    refine r_iload (pc := 93) (i := 5) (tL_law.at 49 rfl) rfl ?_
    first | refine r_imulN (pc := 95) (tL_law.at 50 rfl) ?_ | refine r_imul (pc := 95) (tL_law.at 50 rfl) ?_
    refine r_iload (pc := 96) (i := 6) (tL_law.at 51 rfl) rfl ?_
    first | refine r_iaddN (pc := 98) (tL_law.at 52 rfl) ?_ | refine r_iadd (pc := 98) (tL_law.at 52 rfl) ?_
    refine r_bipush (pc := 99) (w := nI 9) (tL_law.at 53 rfl) (by decide) ?_
    refine r_irem (pc := 101) (tL_law.at 54 rfl) (by decide) ?_
    rw [pk_rem (by omega) (by decide) (by decide)]
    first | refine r_iaddN (pc := 102) (tL_law.at 55 rfl) ?_ | refine r_iadd (pc := 102) (tL_law.at 55 rfl) ?_
    refine r_callS (M' := mL_cell) (pc := 103) (tL_law.at 56 rfl) ml_L_105 rfl mw_L_cell ⟨by decide, by decide⟩ (c_lCell hN (by omega)) rfl rfl (Nat.le_of_ble_eq_true rfl) (by show _ ≤ 600086; omega) (by show _ ≤ 7301441; omega) ?_
    rintro _ _ _ ⟨rfl, rfl, rfl⟩
    refine r_iload (pc := 106) (i := 5) (tL_law.at 57 rfl) rfl ?_
    refine r_iconst (pc := 108) (w := nI 2) (tL_law.at 58 rfl) (by decide) ?_
    refine r_iload (pc := 109) (i := 6) (tL_law.at 59 rfl) rfl ?_
    first | refine r_imulN (pc := 111) (tL_law.at 60 rfl) ?_ | refine r_imul (pc := 111) (tL_law.at 60 rfl) ?_
    first | refine r_iaddN (pc := 112) (tL_law.at 61 rfl) ?_ | refine r_iadd (pc := 112) (tL_law.at 61 rfl) ?_
    refine r_ishr (pc := 113) (tL_law.at 62 rfl) ?_
    refine r_istore (pc := 114) (i := 7) (tL_law.at 63 rfl) (by decide) ?_
    refine r_ls (lwL v x n sb a b (some (.int (cP v a b))) w) rfl ?_
    refine r_iload (pc := 116) (i := 7) (tL_law.at 64 rfl) rfl ?_
    refine r_iconst (pc := 118) (w := nI 3) (tL_law.at 65 rfl) (by decide) ?_
    refine r_iand (pc := 119) (tL_law.at 66 rfl) ?_
    have back : ∀ (h' : Hp) (top' : Nat) (c' w' : Option Value) (ce sl : Nat), LI v h' top' x n sb (allP n a ++ rowP a (b + 1)) → ce ≤ cells + 7 → sl ≤ slots + 2800 → J v mL_law room_1 (lwK v) (z0 v) ce sl h' top' 362 (lwL v x n sb a b c' w') [] := by
      intro h' top' c' w' ce sl I' hce hsl
      first | refine r_iincN (pc := 362) (tL_law.at 203 rfl) rfl (by decide) ?_ | refine r_iinc (pc := 362) (tL_law.at 203 rfl) rfl rfl (by decide) ?_
      refine r_goto (pc := 365) 84 (tL_law.at 204 rfl) (by decide) ?_
      refine r_ls (lwL v x n sb a (b + 1) c' w') rfl ?_
      exact ih (b + 1) (by omega) (by omega) h' top' c' w' ce sl I' (by omega) (by omega)
    by_cases h3 : cP v a b &&& nI 3 = 0
    · refine r_if_ne (pc := 120) 126 (tL_law.at 67 rfl) (by decide) (fun z => absurd h3 z) (fun _ => ?_)
      refine r_goto (pc := 123) 362 (tL_law.at 68 rfl) (by decide) ?_
      have w0 : pWv v a b = 0 := by unfold pWv; rw [if_pos h3]
      refine back h top _ _ _ _ ⟨K, ?_, ?_, ht⟩ (by omega) (by omega)
      · rw [er, LSt_snoc]
        unfold stp
        rw [if_pos w0]
        exact L
      · rw [er, prE_snoc, if_pos w0]
        exact B
    · refine r_if_ne (pc := 120) 126 (tL_law.at 67 rfl) (by decide) (fun _ => ?_) (fun z => absurd z h3)
      have w1 : pWv v a b = 1 + bnd (cP v a b >>> (nI 2 &&& 31)) 9 := by unfold pWv; rw [if_neg h3]
      have w9 := pWv_le v a b
      refine r_iconst (pc := 126) (w := nI 1) (tL_law.at 69 rfl) (by decide) ?_
      refine r_iload (pc := 127) (i := 7) (tL_law.at 70 rfl) rfl ?_
      refine r_iconst (pc := 129) (w := nI 2) (tL_law.at 71 rfl) (by decide) ?_
      refine r_ishr (pc := 130) (tL_law.at 72 rfl) ?_
      refine r_bipush (pc := 131) (w := nI 9) (tL_law.at 73 rfl) (by decide) ?_
      refine r_callS (M' := mL_bound) (pc := 133) (tL_law.at 74 rfl) ml_L_109 rfl mw_L_bound ⟨by decide, by decide⟩ (c_lBound (by decide) (by decide)) rfl rfl (Nat.le_of_ble_eq_true rfl) (by show _ ≤ 600086; omega) (by show _ ≤ 7301441; omega) ?_
      rintro _ _ _ ⟨rfl, rfl, rfl⟩
      first | refine r_iaddN (pc := 136) (tL_law.at 75 rfl) ?_ | refine r_iadd (pc := 136) (tL_law.at 75 rfl) ?_
      refine r_istore (pc := 137) (i := 8) (tL_law.at 76 rfl) (by decide) ?_
      rw [← w1]
      refine r_ls (lwL v x n sb a b (some (.int (cP v a b))) (some (.int (nI (pWv v a b))))) rfl ?_
      refine lw_edge L hab (by omega) w9 (by omega) hD (by omega) (by omega) (fun h1 L1 f1 => ?_)
      have K1 : okX v h1 x (Z0 v) := K.frame fun q q1 q2 => f1 q (by omega)
      have B1 := B.up (fun q hq => f1 q (by omega))
      have lT : (wkTx n ++ edT (prE (pWv v) (pFv v) P)).length ≤ 180 := by
        rw [List.length_append, edT_len]
        show 7 + _ ≤ _
        omega
      have fin : ∀ p q, (if pFv v a b = true then (b, a, pWv v a b) else (a, b, pWv v a b)) = (p, q, pWv v a b) → ((p = a ∧ q = b ∧ cP v a b &&& nI 8 = 0) ∨ (p = b ∧ q = a ∧ ¬ cP v a b &&& nI 8 = 0)) → J v mL_law room_1 (lwK v) (z0 v) cells slots h1 top 298 (lwL v x n sb a b (some (.int (cP v a b))) (some (.int (nI (pWv v a b))))) [] := by
        intro p q epq hpq
        refine lw_text (p := p) (q := q) B1 ht lT (by omega) (by omega) (by omega) hpq (by omega) (by omega) (fun h2 t2 B2 ht2 f2 => ?_)
        refine back h2 t2 _ _ _ _ ⟨K1.frame fun q q1 q2 => f2 q (by omega), ?_, ?_, ht2⟩ (by omega) (by omega)
        · rw [er, LSt_snoc]
          unfold stp
          rw [if_neg (by dsimp only; omega)]
          exact L1.agr fun q q1 q2 => f2 q (by omega)
        · rw [er, prE_snoc, if_neg (by omega), epq, edT_snoc, ← List.append_assoc]
          exact B2
      by_cases h8 : cP v a b &&& nI 8 = 0
      · refine fin a b ?_ (Or.inl ⟨rfl, rfl, h8⟩)
        rw [if_neg (by unfold pFv; rw [decide_eq_false (fun z => z h8)]; decide)]
      · refine fin b a ?_ (Or.inr ⟨rfl, rfl, h8⟩)
        rw [if_pos (by unfold pFv; exact decide_eq_true h8)]
theorem law_outer {v : Ev} {x n sb : Nat} (hN : scN v ≤ 260) (hn : 2 ≤ n ∧ n ≤ 5)
    (kk : ∀ (h : Hp) (top : Nat) (b c w : Option Value) (cells slots : Nat), LI v h top x n sb (allP n n) → cells ≤ 400 → slots ≤ 60000 → J v mL_law room_1 (lwK v) (z0 v) cells slots h top 374 (lwM v x n sb n b c w) []) :
    ∀ m a, a + m = n → ∀ (h : Hp) (top : Nat) (b c w : Option Value) (cells slots : Nat), LI v h top x n sb (allP n a) → cells ≤ 300 + 7 * (allP n a).length → slots ≤ 30000 + 2800 * (allP n a).length → J v mL_law room_1 (lwK v) (z0 v) cells slots h top 72 (lwM v x n sb a b c w) [] := by
  intro m
  induction m with
  | zero =>
    intro a ha h top b c w cells slots I hc hs
    have ha : a = n := by omega
    subst ha
    have l10 := (pfx_ok a (by omega) a (by omega) 0 (by omega)).2
    rw [show rowP a 0 = [] from rfl, List.append_nil] at l10
    refine r_iload (pc := 72) (i := 5) (tL_law.at 36 rfl) rfl ?_
    refine r_iload_n (pc := 74) (i := 3) (tL_law.at 37 rfl) rfl rfl ?_
    refine r_icmp_geN (pc := 75) 374 (tL_law.at 38 rfl) (by decide) (by omega) (by omega) (fun _ => ?_) (fun c => by omega)
    exact kk h top b c w cells slots I (by omega) (by omega)
  | succ m ih =>
    intro a ha h top b c w cells slots I hc hs
    have han : a < n := by omega
    have e0 : allP n a ++ rowP a (a + 1) = allP n a := by rw [rowP_0 (a + 1) (Nat.le_refl _), List.append_nil]
    refine r_iload (pc := 72) (i := 5) (tL_law.at 36 rfl) rfl ?_
    refine r_iload_n (pc := 74) (i := 3) (tL_law.at 37 rfl) rfl rfl ?_
    refine r_icmp_geN (pc := 75) 374 (tL_law.at 38 rfl) (by decide) (by omega) (by omega) (fun c => by omega) (fun _ => ?_)
    refine r_iload (pc := 78) (i := 5) (tL_law.at 39 rfl) rfl ?_
    refine r_iconst (pc := 80) (w := nI 1) (tL_law.at 40 rfl) (by decide) ?_
    first | refine r_iaddN (pc := 81) (tL_law.at 41 rfl) ?_ | refine r_iadd (pc := 81) (tL_law.at 41 rfl) ?_
    refine r_istore (pc := 82) (i := 6) (tL_law.at 42 rfl) (by decide) ?_
    refine r_ls (lwL v x n sb a (a + 1) c w) rfl ?_
    refine law_inner hN hn han (fun h1 t1 c1 w1 ce sl I1 hce hsl => ?_) (n - (a + 1)) (a + 1) (by omega) (by omega) h top c w cells slots (by rw [e0]; exact I) (by rw [e0]; exact hc) (by rw [e0]; exact hs)
    first | refine r_iincN (pc := 368) (tL_law.at 205 rfl) rfl (by decide) ?_ | refine r_iinc (pc := 368) (tL_law.at 205 rfl) rfl rfl (by decide) ?_
    refine r_goto (pc := 371) 72 (tL_law.at 206 rfl) (by decide) ?_
    refine r_ls (lwM v x n sb (a + 1) (some (.int (nI n))) c1 w1) rfl ?_
    exact ih (a + 1) (by omega) h1 t1 _ c1 w1 ce sl I1 hce hsl

