/-! ===== the law: hits, degrees, absorptions of every vertex ===== -/
theorem law_hits {v : Ev} {x n sb : Nat} {b c w : Option Value} {S : LT} {Z : CS} {cc : Nat → Int} (hn : 2 ≤ n ∧ n ≤ 5)
    (kk : ∀ (h : Hp) (top : Nat) (cells slots : Nat), LZ v h top x n S Z cc → cells ≤ 800 → slots ≤ 90000 → J v mL_law room_1 (lwK v) (z0 v) cells slots h top 549 (lwU v x n sb n b c w) []) :
    ∀ m u, u + m = n → ∀ (h : Hp) (top : Nat) (cells slots : Nat), LZ v h top x n S Z cc → cells ≤ 600 + 21 * u → slots ≤ 80000 + 126 * u → J v mL_law room_1 (lwK v) (z0 v) cells slots h top 476 (lwU v x n sb u b c w) [] := by
  intro m
  induction m with
  | zero =>
    intro u hu h top cells slots I hc hs
    have hu : u = n := by omega
    subst hu
    refine r_iload (pc := 476) (i := 5) (tL_law.at 259 rfl) rfl ?_
    refine r_iload_n (pc := 478) (i := 3) (tL_law.at 260 rfl) rfl rfl ?_
    refine r_icmp_geN (pc := 479) 549 (tL_law.at 261 rfl) (by decide) (by omega) (by omega) (fun _ => ?_) (fun c => by omega)
    exact kk h top cells slots I (by omega) (Nat.le_trans hs (by omega))
  | succ m ih =>
    intro u hu h top cells slots I hc hs
    have hun : u < n := by omega
    have hs2 : slots ≤ 80000 + 126 * 5 := Nat.le_trans hs (Nat.add_le_add_left (Nat.mul_le_mul_left _ (by omega)) _)
    have hs3 : slots ≤ 80630 := hs2
    obtain ⟨K, z, L, g, hl, hcd, hF, ht, en, I9⟩ := I
    have I0 : LZ v h top x n S Z cc := ⟨K, z, L, g, hl, hcd, hF, ht, en, I9⟩
    have huS : u < S.n := by omega
    refine r_iload (pc := 476) (i := 5) (tL_law.at 259 rfl) rfl ?_
    refine r_iload_n (pc := 478) (i := 3) (tL_law.at 260 rfl) rfl rfl ?_
    refine r_icmp_geN (pc := 479) 549 (tL_law.at 261 rfl) (by decide) (by omega) (by omega) (fun c => by omega) (fun _ => ?_)
    refine r_aload_n (pc := 482) (i := 2) (tL_law.at 262 rfl) rfl rfl ?_
    refine r_aload_n (pc := 483) (i := 1) (tL_law.at 263 rfl) rfl rfl ?_
    refine r_iload (pc := 484) (i := 5) (tL_law.at 264 rfl) rfl ?_
    refine r_iconst (pc := 486) (w := nI 0) (tL_law.at 265 rfl) (by decide) ?_
    refine r_callV (M' := mL_areHits) (pc := 487) (tL_law.at 266 rfl) ml_L_156 rfl mw_L_areHits ⟨by decide, by decide⟩ (L.1) rfl rfl (l_hits0 L K z g (by omega) (by omega) (Or.inr (Nat.le_refl _)) huS) rfl rfl (Nat.le_of_ble_eq_true rfl) (by show _ ≤ 600086; omega) (by show _ ≤ 7301441; omega) ?_
    rintro _ h1 t1 ⟨rfl, K1, ht1, f1⟩
    have I1 := I0.fr K1 f1 ht1
    refine r_if_eq (pc := 490) 520 (tL_law.at 267 rfl) (by decide) (fun k => absurd k (by decide)) (fun _ => ?_)
    refine r_aload_n (pc := 493) (i := 2) (tL_law.at 268 rfl) rfl rfl ?_
    refine r_aload_n (pc := 494) (i := 1) (tL_law.at 269 rfl) rfl rfl ?_
    refine r_iload (pc := 495) (i := 5) (tL_law.at 270 rfl) rfl ?_
    refine r_iconst (pc := 497) (w := nI 1) (tL_law.at 271 rfl) (by decide) ?_
    refine r_callV (M' := mL_areHits) (pc := 498) (tL_law.at 272 rfl) ml_L_156 rfl mw_L_areHits ⟨by decide, by decide⟩ (I1.2.2.1.1) rfl rfl (l_hits1 I1.2.2.1 K1 z g hl I1.2.2.2.2.2.1 I1.2.2.2.2.2.2.1 (by omega) (by omega) (Or.inr (Nat.le_refl _)) huS) rfl rfl (Nat.le_of_ble_eq_true rfl) (by show _ ≤ 600086; omega) (by show _ ≤ 7301441; omega) ?_
    rintro _ h2 t2 ⟨rfl, K2, ht2, f2⟩
    have I2 := I1.fr K2 f2 ht2
    refine r_if_eq (pc := 501) 520 (tL_law.at 273 rfl) (by decide) (fun k => absurd k (by decide)) (fun _ => ?_)
    refine r_aload_n (pc := 504) (i := 1) (tL_law.at 274 rfl) rfl rfl ?_
    refine r_iload (pc := 505) (i := 5) (tL_law.at 275 rfl) rfl ?_
    refine r_callV (M' := mX10_degree) (pc := 507) (tL_law.at 276 rfl) ml_L_160 rfl mw_X10_degree ⟨by decide, by decide⟩ (K2.1.1) rfl rfl (c_degr (i := u) K2 z (by rw [g.2.1]; exact huS)) rfl rfl (Nat.le_of_ble_eq_true rfl) (by show _ ≤ 600086; omega) (by show _ ≤ 7301441; omega) ?_
    rintro _ _ _ ⟨rfl, rfl, K3, f3⟩
    have I3 := I2.fr K3 f3.t (Nat.le_refl _)
    refine r_aload_n (pc := 510) (i := 2) (tL_law.at 277 rfl) rfl rfl ?_
    refine r_get (pc := 511) (tL_law.at 278 rfl) gf_L_17 (I3.2.2.1.1) rfl ?_
    refine r_iload (pc := 514) (i := 5) (tL_law.at 279 rfl) rfl ?_
    refine r_iald (pc := 516) (tL_law.at 280 rfl) (I3.2.2.1.2.2.2.2.2.1) (u) (rfl) (by omega) (by omega) ?_
    have eD : degN Z.2.1.W u Z.2.1.n = S.D u := by
      rw [g.2.2.2.2.2.2.2.1 u huS, g.2.2.1, g.2.1]
    have bD := g.2.2.2.2.2.2.2.2.1 u (by omega)
    refine r_icmp_eqN (pc := 517) 522 (tL_law.at 281 rfl) (by decide) (by omega) (by show S.D u < 2147483648; omega) (fun _ => ?_) (fun k => absurd eD k)
    refine r_aload_n (pc := 522) (i := 2) (tL_law.at 284 rfl) rfl rfl ?_
    refine r_iload (pc := 523) (i := 5) (tL_law.at 285 rfl) rfl ?_
    refine r_callV (M' := mL_isAbsorbing) (pc := 525) (tL_law.at 286 rfl) ml_L_74 rfl mw_L_isAbsorbing ⟨by decide, by decide⟩ (I3.2.2.1.1) rfl rfl (c_lAbs I3.2.2.1 g.2.2.2.2.2.2.2.2.2 (show u < 6 by omega)) rfl rfl (Nat.le_of_ble_eq_true rfl) (by show _ ≤ 600086; omega) (by show _ ≤ 7301441; omega) ?_
    rintro _ _ _ ⟨rfl, rfl, rfl⟩
    have back : ∀ (h' : Hp) (top' : Nat) (ce sl : Nat), LZ v h' top' x n S Z cc → ce ≤ cells + 21 → sl ≤ slots + 126 → J v mL_law room_1 (lwK v) (z0 v) ce sl h' top' 543 (lwU v x n sb u b c w) [] := by
      intro h' top' ce sl I' hce hsl
      first | refine r_iincN (pc := 543) (tL_law.at 295 rfl) rfl (by decide) ?_ | refine r_iinc (pc := 543) (tL_law.at 295 rfl) rfl rfl (by decide) ?_
      refine r_goto (pc := 546) 476 (tL_law.at 296 rfl) (by decide) ?_
      refine r_ls (lwU v x n sb (u + 1) b c w) rfl ?_
      have q1 : ce ≤ 600 + 21 * (u + 1) := by omega
      have q2 : sl ≤ 80000 + 126 * (u + 1) := Nat.le_trans hsl (by rw [Nat.mul_succ, ← Nat.add_assoc]; exact Nat.add_le_add_right hs 126)
      exact ih (u + 1) (by omega) h' top' ce sl I' q1 q2
    by_cases ca : S.a.testBit u = true
    · rw [ca]
      refine r_if_eq (pc := 528) 543 (tL_law.at 287 rfl) (by decide) (fun k => absurd k (by decide)) (fun _ => ?_)
      refine r_aload_n (pc := 531) (i := 2) (tL_law.at 288 rfl) rfl rfl ?_
      refine r_aload_n (pc := 532) (i := 1) (tL_law.at 289 rfl) rfl rfl ?_
      refine r_iload (pc := 533) (i := 5) (tL_law.at 290 rfl) rfl ?_
      refine r_callV (M' := mL_areAbsorptions) (pc := 535) (tL_law.at 291 rfl) ml_L_163 rfl mw_L_areAbsorptions ⟨by decide, by decide⟩ (I3.2.2.1.1) rfl rfl (l_absL I3.2.2.1 K3 z g (by omega) (by omega) (Or.inr (Nat.le_refl _)) huS ca) rfl rfl (Nat.le_of_ble_eq_true rfl) (by show _ ≤ 600086; omega) (by show _ ≤ 7301441; omega) ?_
      rintro _ h4 t4 ⟨rfl, K4, ht4, f4⟩
      have I4 := I3.fr K4 f4 ht4
      refine r_if_ne (pc := 538) 543 (tL_law.at 292 rfl) (by decide) (fun _ => ?_) (fun k => absurd k (by decide))
      exact back h4 t4 _ _ I4 (by omega) (by omega)
    · have ca2 : S.a.testBit u = false := by simpa using ca
      rw [ca2]
      refine r_if_eq (pc := 528) 543 (tL_law.at 287 rfl) (by decide) (fun _ => ?_) (fun k => absurd rfl k)
      exact back _ t2 _ _ I3 (by omega) (by omega)

