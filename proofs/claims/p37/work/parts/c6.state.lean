/-! ===== the law and the component behind the reading ===== -/
theorem TF_like {S S' : LT} (h1 : S'.n = S.n) (h2 : S'.e = S.e) (h3 : S'.E = S.E) (h4 : S'.T = S.T) : ∀ k left l, TF S' k left l = TF S k left l
  | 0, _, _ => rfl
  | k + 1, left, l => by
    rw [TF, TF, h1, h2, h3, h4, TF_like h1 h2 h3 h4 k left l, TF_like h1 h2 h3 h4 k (left - 1)]
theorem LSt_T {w : Nat → Nat → Nat} (hw : ∀ a b, w a b ≤ 9) : ∀ (P : List (Nat × Nat)) (S : LT), (∀ k, S.T k ≤ 9) → ∀ k, (P.foldl (stp w) S).T k ≤ 9
  | [], S, h => h
  | p :: P, S, h => LSt_T hw P (stp w S p) (fun k => by
      unfold stp
      split
      · exact h k
      · show upN S.T S.e (w p.1 p.2) k ≤ 9
        unfold upN
        split
        · exact hw _ _
        · exact h k)
/-- behind the reading -/
def LZ (v : Ev) (h : Hp) (top x n : Nat) (S : LT) (Z : CS) (cc : Nat → Int) : Prop :=
  okX v h x Z ∧ okZ Z ∧ isLw v h (x + 96) S ∧ sGZ S Z cc ∧ okL Z.2.1 ∧ okC v h x Z.2.1 9 cc ∧ Z.2.1.F < top ∧ x + 114 ≤ top ∧ S.n = n ∧ TF S S.e (n - 1) (fun u => u) = trV S.W n ∧ S.e ≤ 10 ∧ (∀ i, i < 2 * S.e → S.E i < n) ∧ (∀ k, S.T k ≤ 9) ∧ ∀ u, u < n → S.C (u * 6 + u) = 0
theorem okG.copy {G X : GT} (h : okG X) : okG (G.cop X) := by
  obtain ⟨h1, h2, h3, h4, h5⟩ := h
  refine ⟨h1, h2, h3, fun k hk => ?_, fun k hk => ?_⟩
  · show cpF X.B G.B 6 k ≤ 6
    unfold cpF
    rw [if_pos hk]
    exact h4 k hk
  · show cpF X.W G.W 36 k ≤ 9
    unfold cpF
    rw [if_pos hk]
    exact h5 k hk
theorem lz_pure {v : Ev} {h : Hp} {top x n F hd : Nat} {b : Nat → Nat} {R' : RD} (hn : 2 ≤ n ∧ n ≤ 5) (hx : x + 114 ≤ top) (hF : x + 114 ≤ F ∧ F < top) (oG : okG R'.G) (r1 : R'.hc = 1) (r2 : R'.cl = 9) (r3 : ∀ i c, lwC[i]? = some c → R'.cd i = c) (r4 : R'.G.n = n) (r5 : R'.G.a = aMk v n) (r6 : R'.G.b = n) (r7 : R'.G.F = F) (r8 : InvG R'.G (LSt n (pWv v) (allP n n)))
    (hcell : h F = some (aI v 9 (sF (cdC R')))) (K : okX v h x (ldZ (((Z0 v).1.1, b, hd), (Z0 v).2) (true, R'))) (L : isLw v h (x + 96) (lwS v n n)) :
    LZ v h top x n (lwE v n (ldZ (((Z0 v).1.1, b, hd), (Z0 v).2) (true, R')).2.1 (cdC R')) (ldZ (((Z0 v).1.1, b, hd), (Z0 v).2) (true, R')) (cdC R') := by
  obtain ⟨ok, l10⟩ := okAll hn.2
  have h6 : n ≤ 6 := by omega
  have I := LSt_inv (w := pWv v) h6 (allP n n).length (allP n n) rfl ok
  obtain ⟨e10, hD, -⟩ := LI.e9 (v := v) hn.2 ok
  obtain ⟨g1, g2, g3⟩ := r8
  have eZ : (ldZ (((Z0 v).1.1, b, hd), (Z0 v).2) (true, R')).2.1 = (G0 v).cop R'.G := rfl
  have gW : ∀ k, k < 36 → ((G0 v).cop R'.G).W k = (LSt n (pWv v) (allP n n)).W k := fun k hk => by
    show cpF R'.G.W _ 36 k = _
    unfold cpF
    rw [if_pos hk]
    exact g1 k hk
  have gL : ∀ i, i < (LSt n (pWv v) (allP n n)).e → ((G0 v).cop R'.G).L i = (LSt n (pWv v) (allP n n)).E (2 * i) ∧ ((G0 v).cop R'.G).H i = (LSt n (pWv v) (allP n n)).E (2 * i + 1) := fun i hi => by
    show cpF R'.G.L _ 15 i = _ ∧ cpF R'.G.H _ 15 i = _
    unfold cpF
    rw [if_pos (by omega), if_pos (by omega)]
    exact g3 i hi
  have hc : ∀ i c, lwC[i]? = some c → cdC R' i = c := fun i c hic => by
    have hi : i < 9 := (List.getElem?_eq_some_iff.mp hic).1
    unfold cdC
    rw [r1, if_neg (by decide), r2, if_pos hi]
    exact r3 i c hic
  have hW : ∀ i j, i < 6 → j < 6 → ((G0 v).cop R'.G).W (i * 6 + j) = wq (pWv v) (allP n n) i j := fun i j hi hj => (gW _ (by omega)).trans (I.2.1 i j hi hj)
  have gd := fin_gdW h6 (pWv_le v) ok hW
  have hC : ∀ k, k < 36 → tbl ((G0 v).cop R'.G) 9 (cdC R') k = (LSt n (pWv v) (allP n n)).C k := fun k hk => fin_tbl h6 (pWv_le v) ok I gW g2 gL hc hk
  rw [eZ]
  refine ⟨K, ?_, ?_, ?_, ?_, ?_, ?_, hx, rfl, ?_, ?_, ?_, ?_, ?_⟩
  · refine ⟨oG.copy, ?_, ?_, ?_, Nat.zero_le _⟩
    · show R'.G.b ≤ 6
      omega
    · show (0 + 1) % 8 < 8
      decide
    · show min (0 + 1) 8 ≤ 8
      decide
  · exact L.like rfl gW hC rfl
  · refine ⟨hn, r4, rfl, rfl, r5, gd, fun k hk => ?_, fun u hu => ?_, hD, aMk_lt v n h6⟩
    · show tbl ((G0 v).cop R'.G) 9 (cdC R') k ≤ 99
      rw [hC k hk]
      obtain ⟨e, h1, h2⟩ := ij36 hk
      rw [e, I.2.2.1 _ _ h1 h2]
      split
      · omega
      · exact kst_le _ _ _
    · have hu' : u < n := hu
      show (LSt n (pWv v) (allP n n)).D u = degN ((G0 v).cop R'.G).W u n
      rw [I.2.2.2.1 u (by omega), fin_deg h6 ok I.2.1 (by omega), deg_cong h6 (by omega) gW]
  · intro i hi
    have hi' : i < (LSt n (pWv v) (allP n n)).e := by
      rw [← g2]
      exact hi
    obtain ⟨q1, q2⟩ := gL i hi'
    have := ok.1 _ (fin_edge I hi').1
    dsimp only at this
    show ((G0 v).cop R'.G).L i < 6 ∧ ((G0 v).cop R'.G).H i < 6
    omega
  · have eF : (ldZ (((Z0 v).1.1, b, hd), (Z0 v).2) (true, R')).2.1.F = F := r7
    refine ⟨Or.inr ?_, Or.inr ?_, by omega, fun k hk => ?_⟩
    · rw [eF]
      exact hcell
    · rw [eF]
      omega
    · have : ∀ k, k < 9 → ∃ c, lwC[k]? = some c ∧ -7 ≤ c ∧ c ≤ 10000 := by
        intro k hk
        rcases (show k = 0 ∨ k = 1 ∨ k = 2 ∨ k = 3 ∨ k = 4 ∨ k = 5 ∨ k = 6 ∨ k = 7 ∨ k = 8 by omega) with rfl | rfl | rfl | rfl | rfl | rfl | rfl | rfl | rfl
        all_goals exact ⟨_, rfl, by decide, by decide⟩
      obtain ⟨c, k1, k2⟩ := this k hk
      rw [hc k c k1]
      exact k2
  · have eF : (ldZ (((Z0 v).1.1, b, hd), (Z0 v).2) (true, R')).2.1.F = F := r7
    rw [eF]
    exact hF.2
  · show TF _ (LSt n (pWv v) (allP n n)).e (n - 1) (fun u => u) = trV ((G0 v).cop R'.G).W n
    rw [TF_like (S := LSt n (pWv v) (allP n n)) (S' := lwE v n ((G0 v).cop R'.G) (cdC R')) I.1.1.symm rfl rfl rfl]
    exact fin_tree hn I.1.1 I hW gd
  · show (LSt n (pWv v) (allP n n)).e ≤ 10
    omega
  · intro i hi
    have hi' : i < 2 * (LSt n (pWv v) (allP n n)).e := hi
    show (LSt n (pWv v) (allP n n)).E i < n
    have hj : i / 2 < (LSt n (pWv v) (allP n n)).e := by omega
    have := ok.1 _ (fin_edge I hj).1
    dsimp only at this
    rcases (show i = 2 * (i / 2) ∨ i = 2 * (i / 2) + 1 by omega) with q | q
    · rw [q]
      omega
    · rw [q]
      omega
  · exact LSt_T (pWv_le v) (allP n n) (LS0 n) (fun _ => Nat.zero_le _)
  · intro u hu
    show tbl ((G0 v).cop R'.G) 9 (cdC R') (u * 6 + u) = 0
    rw [hC _ (by omega), I.2.2.1 u u (by omega) (by omega), if_pos (by rw [I.2.1 u u (by omega) (by omega), wq_out ok (by omega)])]
/-- the picture kept by what changes the component's cells alone, or cells behind -/
theorem LZ.fr {v : Ev} {h h' : Hp} {top top' x n : Nat} {S : LT} {Z : CS} {cc : Nat → Int} (I : LZ v h top x n S Z cc) (K : okX v h' x Z) (f : frT h h' top x) (ht : top ≤ top') : LZ v h' top' x n S Z cc := by
  obtain ⟨-, i2, i3, i4, i5, i6, i7, i8, i9⟩ := I
  exact ⟨K, i2, i3.fr f (by omega) (Or.inr (Nat.le_refl _)), i4, i5, i6.fr f i7, by omega, by omega, i9⟩
theorem frX.t {h h' : Hp} {x top : Nat} (f : frX h h' x) : frT h h' top x := fun a _ h2 => f a h2
theorem l_int (a : Int64) : ∃ z, inL z ∧ a = lI z := ⟨a.toInt, by
    have h1 := Int64.le_toInt a
    have h2 := Int64.toInt_lt a
    unfold inL
    omega, (Int64.ofInt_toInt a).symm⟩
section
variable {v : Ev} {M : Md} {R : Room} {K : List Frame → Array Value → State → State → Prop} {t0 cells slots : Nat} {h : Hp} {top pc : Nat} {ls : List (Option Value)} {st : List Value}
/-- equal longs compared -/
theorem r_lq {a b : Int64} {off : Int} (tgt : Nat) (d1 : decode M.2.1 pc = .ok (.lcmp, 1)) (d2 : decode M.2.1 (pc + 1) = .ok (.ifCond .eq off, 3)) (ht : ((pc + 1 : Nat) : Int) + off = (tgt : Int)) (e : a = b) (kk : J v M R K t0 cells slots h top tgt ls st) : J v M R K t0 cells slots h top pc ls (.long b :: .long a :: st) := by
  subst e
  obtain ⟨z, hz, rfl⟩ := l_int a
  exact r_lc_eq tgt d1 d2 ht hz hz (fun _ => kk) (fun c => absurd rfl c)
end

