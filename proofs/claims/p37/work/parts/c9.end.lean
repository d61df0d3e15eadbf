/-! ===== the law: trees, the sum after some steps, walks, the end ===== -/
theorem sFl_P {W : Nat → Nat} {n s k : Nat} (hn : n ≤ 6) (hW : ∀ k, k < 36 → W k ≤ 9) : ∀ u, u ≤ n → P32 (sFl (flN W n s k) u)
  | 0, _ => P32_0
  | u + 1, h => P32_add (sFl_P hn hW u (by omega)) (flN_P hn hW k u (by omega))
abbrev lwV (v : Ev) (x n sb q : Nat) (b c w : Option Value) : List (Option Value) := [some (.ref (oA v 98)), some (.ref x), some (.ref (x + 96)), some (.int (nI n)), some (.ref sb), some (.ref q), b, c, w]
theorem law_walks {v : Ev} {x n sb q fr cells slots top : Nat} {h : Hp} {c w : Option Value} {S : LT} {Z : CS} {cc : Nat → Int} (hN : scN v ≤ 260) (hn : 2 ≤ n ∧ n ≤ 5) (hf : fr < n) (I : LZ v h top x n S Z cc) (hc : cells ≤ 3000) (hs : slots ≤ 110000) :
    J v mL_law room_1 (lwK v) (z0 v) cells slots h top 666 (lwV v x n sb q (some (.int (nI fr))) c w) [] := by
  obtain ⟨K, z, L, g, hl, hcd, hF, ht, en, hT, he, hE, hTT, hdg⟩ := I
  refine r_aload_n (pc := 666) (i := 2) (tL_law.at 359 rfl) rfl rfl ?_
  refine r_aload_n (pc := 667) (i := 1) (tL_law.at 360 rfl) rfl rfl ?_
  refine r_iload (pc := 668) (i := 6) (tL_law.at 361 rfl) rfl ?_
  refine r_aload_n (pc := 670) (i := 0) (tL_law.at 362 rfl) rfl rfl ?_
  refine r_bipush (pc := 671) (w := nI 14) (tL_law.at 363 rfl) (by decide) ?_
  refine r_callS (M' := mL_cell) (pc := 673) (tL_law.at 364 rfl) ml_L_105 rfl mw_L_cell ⟨by decide, by decide⟩ (c_lCell hN (by omega)) rfl rfl (Nat.le_of_ble_eq_true rfl) (by show _ ≤ 600086; omega) (by show _ ≤ 7301441; omega) ?_
  rintro _ _ _ ⟨rfl, rfl, rfl⟩
  refine r_bipush (pc := 676) (w := nI 60) (tL_law.at 365 rfl) (by decide) ?_
  refine r_callS (M' := mL_bound) (pc := 678) (tL_law.at 366 rfl) ml_L_109 rfl mw_L_bound ⟨by decide, by decide⟩ (c_lBound (by decide) (by decide)) rfl rfl (Nat.le_of_ble_eq_true rfl) (by show _ ≤ 600086; omega) (by show _ ≤ 7301441; omega) ?_
  rintro _ _ _ ⟨rfl, rfl, rfl⟩
  refine r_aload_n (pc := 681) (i := 0) (tL_law.at 367 rfl) rfl rfl ?_
  refine r_bipush (pc := 682) (w := nI 15) (tL_law.at 368 rfl) (by decide) ?_
  refine r_callS (M' := mL_cell) (pc := 684) (tL_law.at 369 rfl) ml_L_105 rfl mw_L_cell ⟨by decide, by decide⟩ (c_lCell hN (by omega)) rfl rfl (Nat.le_of_ble_eq_true rfl) (by show _ ≤ 600086; omega) (by show _ ≤ 7301441; omega) ?_
  rintro _ _ _ ⟨rfl, rfl, rfl⟩
  refine r_ldcI (pc := 687) (tL_law.at 370 rfl) ic_L_177 ?_
  refine r_irem (pc := 689) (tL_law.at 371 rfl) (by decide) ?_
  obtain ⟨k, k1, k2, ek⟩ := mil_rem (scF v 15)
  rw [ek]
  refine r_mabsI (pc := 690) (tL_law.at 372 rfl) ml_L_178 (Nat.le_of_ble_eq_true rfl) (Nat.le_of_ble_eq_true rfl) (by show _ ≤ 600086; omega) (by show _ ≤ 7301441; omega) ⟨by omega, by omega⟩ ?_
  refine r_sipush (pc := 693) (w := nI 2000) (tL_law.at 373 rfl) (by decide) ?_
  first | refine r_imulN (pc := 696) (tL_law.at 374 rfl) ?_ | refine r_imul (pc := 696) (tL_law.at 374 rfl) ?_
  have hb : bnd (scF v 14) 60 < 60 := Nat.mod_lt _ (by decide)
  refine r_callV (M' := mL_areWalks) (pc := 697) (tL_law.at 375 rfl) ml_L_181 rfl mw_L_areWalks ⟨by decide, by decide⟩ (L.1) rfl rfl (c_walks (from_ := fr) (steps := bnd (scF v 14) 60) (seed := k.natAbs * 2000) L K z hl hcd hF (by omega) (by omega) (Or.inr (Nat.le_refl _)) g.ok9 g.2.2.2.2.2.2.2.2.2 g.2.1 (by omega) (by omega) (by omega) g.2.2.2.2.2.2.2.1 (fun u hu => hdg u (by omega)) (by rw [g.2.2.2.1, g.2.2.1, g.2.1, g.2.2.2.2.1])) rfl rfl (Nat.le_of_ble_eq_true rfl) (by show _ ≤ 600086; omega) (by show _ ≤ 7301441; omega) ?_
  rintro _ h1 _ ⟨rfl, rfl, K1, f1⟩
  refine r_if_eq (pc := 700) 707 (tL_law.at 376 rfl) (by decide) (fun k => absurd k (by decide)) (fun _ => ?_)
  refine r_iconst (pc := 703) (w := nI 1) (tL_law.at 377 rfl) (by decide) ?_
  refine r_goto (pc := 704) 708 (tL_law.at 378 rfl) (by decide) ?_
  exact r_lend (tL_law.at 380 rfl) (by omega) (by omega)
theorem law_floats {v : Ev} {x n sb q fr : Nat} {S : LT} {Z : CS} {cc : Nat → Int} (hN : scN v ≤ 260) (hn : 2 ≤ n ∧ n ≤ 5) (hf : fr < n) : ∀ m u, u + m = n → ∀ (h : Hp) (top cells slots : Nat), LZ v h top x n S Z cc → cells ≤ 3000 → slots ≤ 110000 → J v mL_law room_1 (lwK v) (z0 v) cells slots h top 614 (lwV v x n sb q (some (.int (nI fr))) (some (.float (sFl (flN Z.2.1.W Z.2.1.n fr (bnd (scF v 13) 20)) u))) (some (.int (nI u)))) [] := by
  have hb : bnd (scF v 13) 20 < 20 := Nat.mod_lt _ (by decide)
  intro m
  induction m with
  | zero =>
    intro u hu h top cells slots I hc hs
    have hu : u = n := by omega
    subst hu
    have g := I.2.2.2.1
    have en : S.n = u := I.2.2.2.2.2.2.2.2.1
    have gd := g.2.2.2.2.2.1
    have e1 : Z.2.1.n = u := g.2.1.trans en
    obtain ⟨a1, a2⟩ := all_in (W := Z.2.1.W) (n := u) (s := fr) (k := bnd (scF v 13) 20) hn.2 (by rw [g.2.2.1]; exact gd.2.2.2) hf (by omega)
    rw [e1]
    refine r_iload (pc := 614) (i := 8) (tL_law.at 334 rfl) rfl ?_
    refine r_iload_n (pc := 616) (i := 3) (tL_law.at 335 rfl) rfl rfl ?_
    refine r_icmp_geN (pc := 617) 650 (tL_law.at 336 rfl) (by decide) (by omega) (by omega) (fun _ => ?_) (fun c => by omega)
    refine r_fload (pc := 650) (i := 7) (tL_law.at 351 rfl) rfl ?_
    refine r_ldcF (pc := 652) (tL_law.at 352 rfl) cf_L_175 ?_
    refine r_fcmp (pc := 654) (tL_law.at 353 rfl) ?_
    rw [a1]
    refine r_if_le (pc := 655) 707 (tL_law.at 354 rfl) (by decide) (fun k => absurd k (by decide)) (fun _ => ?_)
    refine r_fload (pc := 658) (i := 7) (tL_law.at 355 rfl) rfl ?_
    refine r_ldcF (pc := 660) (tL_law.at 356 rfl) cf_L_176 ?_
    refine r_fcmp (pc := 662) (tL_law.at 357 rfl) ?_
    rw [a2]
    refine r_if_ge (pc := 663) 707 (tL_law.at 358 rfl) (by decide) (fun k => absurd k (by decide)) (fun _ => ?_)
    exact law_walks hN hn hf I hc hs
  | succ m ih =>
    intro u hu h top cells slots I hc hs
    have g := I.2.2.2.1
    have en : S.n = n := I.2.2.2.2.2.2.2.2.1
    have gd := g.2.2.2.2.2.1
    have e1 : Z.2.1.n = n := g.2.1.trans en
    have hW9 : ∀ k, k < 36 → Z.2.1.W k ≤ 9 := by rw [g.2.2.1]; exact gd.2.2.2
    refine r_iload (pc := 614) (i := 8) (tL_law.at 334 rfl) rfl ?_
    refine r_iload_n (pc := 616) (i := 3) (tL_law.at 335 rfl) rfl rfl ?_
    refine r_icmp_geN (pc := 617) 650 (tL_law.at 336 rfl) (by decide) (by omega) (by omega) (fun c => by omega) (fun _ => ?_)
    refine r_fload (pc := 620) (i := 7) (tL_law.at 337 rfl) rfl ?_
    refine r_aload_n (pc := 622) (i := 1) (tL_law.at 338 rfl) rfl rfl ?_
    refine r_iload (pc := 623) (i := 6) (tL_law.at 339 rfl) rfl ?_
    refine r_iload (pc := 625) (i := 8) (tL_law.at 340 rfl) rfl ?_
    refine r_aload_n (pc := 627) (i := 0) (tL_law.at 341 rfl) rfl rfl ?_
    refine r_bipush (pc := 628) (w := nI 13) (tL_law.at 342 rfl) (by decide) ?_
    refine r_callS (M' := mL_cell) (pc := 630) (tL_law.at 343 rfl) ml_L_105 rfl mw_L_cell ⟨by decide, by decide⟩ (c_lCell hN (by omega)) rfl rfl (Nat.le_of_ble_eq_true rfl) (by show _ ≤ 600086; omega) (by show _ ≤ 7301441; omega) ?_
    rintro _ _ _ ⟨rfl, rfl, rfl⟩
    refine r_bipush (pc := 633) (w := nI 20) (tL_law.at 344 rfl) (by decide) ?_
    refine r_callS (M' := mL_bound) (pc := 635) (tL_law.at 345 rfl) ml_L_109 rfl mw_L_bound ⟨by decide, by decide⟩ (c_lBound (by decide) (by decide)) rfl rfl (Nat.le_of_ble_eq_true rfl) (by show _ ≤ 600086; omega) (by show _ ≤ 7301441; omega) ?_
    rintro _ _ _ ⟨rfl, rfl, rfl⟩
    refine r_callV (M' := mX10_after) (pc := 638) (tL_law.at 346 rfl) ml_L_171 rfl mw_X10_after ⟨by decide, by decide⟩ (I.1.1.1) rfl rfl (c_afterQ (i := fr) (j := u) (k := bnd (scF v 13) 20) I.1 I.2.1 (by omega) (by omega) (by omega)) rfl rfl (Nat.le_of_ble_eq_true rfl) (by show _ ≤ 600086; omega) (by show _ ≤ 7301441; omega) ?_
    rintro _ _ _ ⟨rfl, rfl, K1, f1⟩
    refine r_fadd (pc := 641) (tL_law.at 347 rfl) ((P32_add (sFl_P (by omega) hW9 u (by omega)) (flN_P (by omega) hW9 _ u (by omega))).n32) ?_
    refine r_fstore (pc := 642) (i := 7) (tL_law.at 348 rfl) (by decide) ?_
    first | refine r_iincN (pc := 644) (tL_law.at 349 rfl) rfl (by decide) ?_ | refine r_iinc (pc := 644) (tL_law.at 349 rfl) rfl rfl (by decide) ?_
    refine r_goto (pc := 647) 614 (tL_law.at 350 rfl) (by decide) ?_
    refine r_ls (lwV v x n sb q (some (.int (nI fr))) (some (.float (sFl (flN Z.2.1.W Z.2.1.n fr (bnd (scF v 13) 20)) (u + 1)))) (some (.int (nI (u + 1))))) rfl ?_
    exact ih (u + 1) (by omega) _ _ _ _ (I.fr K1 f1.t (Nat.le_refl _)) (by omega) (by omega)
theorem law_end {v : Ev} {x n sb cells slots top : Nat} {h : Hp} {b c w : Option Value} {S : LT} {Z : CS} {cc : Nat → Int} (hN : scN v ≤ 260) (hn : 2 ≤ n ∧ n ≤ 5) (I : LZ v h top x n S Z cc) (hc : cells ≤ 800) (hs : slots ≤ 90000) :
    J v mL_law room_1 (lwK v) (z0 v) cells slots h top 549 (lwU v x n sb n b c w) [] := by
  have ht := I.2.2.2.2.2.2.2.1
  refine r_iload_n (pc := 549) (i := 3) (tL_law.at 297 rfl) rfl rfl ?_
  refine r_newaI (pc := 550) n (tL_law.at 298 rfl) rfl (by omega) ac_int (by show _ ≤ 600086; omega) (by show _ ≤ 7301441; omega) (fun fr550 => ?_)
  refine r_widen (c2 := 801) (s2 := 90005) (by omega) (by omega) ?_
  refine r_astore (pc := 552) (i := 5) (tL_law.at 299 rfl) (by decide) ?_
  refine r_iconst (pc := 554) (w := nI 0) (tL_law.at 300 rfl) (by decide) ?_
  refine r_istore (pc := 555) (i := 6) (tL_law.at 301 rfl) (by decide) ?_
  have key : ∀ m u, u + m = n → ∀ (h1 : Hp) (f : Nat → Int32), h1 top = some (aI v n f) → (∀ a, a ≠ top → h1 a = h a) → (∀ k, k < u → f k = nI k) → J v mL_law room_1 (lwK v) (z0 v) 801 90005 h1 (top + 1) 557 (lwV v x n sb top (some (.int (nI u))) c w) [] := by
    intro m
    induction m with
    | zero =>
      intro u hu h1 f hq f1 hfk
      have hu : u = n := by omega
      subst hu
      have I1 : LZ v h1 (top + 1) x u S Z cc := I.fr (I.1.frame fun a a1 a2 => f1 a (by omega)) (fun a a1 a2 => f1 a (by omega)) (by omega)
      have g := I1.2.2.2.1
      have en : S.n = u := I1.2.2.2.2.2.2.2.2.1
      have gd := g.2.2.2.2.2.1
      have e1 : Z.2.1.n = u := g.2.1.trans en
      have trA := tr_all gd (by omega)
      refine r_iload (pc := 557) (i := 6) (tL_law.at 302 rfl) rfl ?_
      refine r_iload_n (pc := 559) (i := 3) (tL_law.at 303 rfl) rfl rfl ?_
      refine r_icmp_geN (pc := 560) 576 (tL_law.at 304 rfl) (by decide) (by omega) (by omega) (fun _ => ?_) (fun c => by omega)
      refine r_aload_n (pc := 576) (i := 1) (tL_law.at 311 rfl) rfl rfl ?_
      refine r_callV (M' := mX10_trees) (pc := 577) (tL_law.at 312 rfl) ml_L_167 rfl mw_X10_trees ⟨by decide, by decide⟩ (I1.1.1.1) rfl rfl (c_treesQ I1.1 I1.2.1 (fun _ => by rw [g.2.2.1, g.2.1]; exact trA.1)) rfl rfl (Nat.le_of_ble_eq_true rfl) (by show _ ≤ 600086; omega) (by show _ ≤ 7301441; omega) ?_
      rintro _ _ _ ⟨rfl, rfl, K2, f2⟩
      rename_i h2
      have I2 := I1.fr K2 f2.t (Nat.le_refl _)
      have hq2 : h2 top = some (aI v u f) := (f2 top (by omega)).trans hq
      refine r_aload_n (pc := 580) (i := 2) (tL_law.at 313 rfl) rfl rfl ?_
      refine r_iconst (pc := 581) (w := nI 0) (tL_law.at 314 rfl) (by decide) ?_
      refine r_iload_n (pc := 582) (i := 3) (tL_law.at 315 rfl) rfl rfl ?_
      refine r_iconst (pc := 583) (w := nI 1) (tL_law.at 316 rfl) (by decide) ?_
      first | refine r_isubN (pc := 584) (tL_law.at 317 rfl) (by omega) ?_ | refine r_isubZ (pc := 584) (tL_law.at 317 rfl) ?_ | refine r_isub (pc := 584) (tL_law.at 317 rfl) ?_
      refine r_aload (pc := 585) (i := 5) (tL_law.at 318 rfl) rfl ?_
      have he : S.e ≤ 10 := I2.2.2.2.2.2.2.2.2.2.2.1
      have hC := c_trees (v := v) (y := x + 96) (S := S) (by omega) (by omega) (fun i _ h2 => by rw [en]; exact I2.2.2.2.2.2.2.2.2.2.2.2.1 i h2) (fun k _ => Nat.le_trans (I2.2.2.2.2.2.2.2.2.2.2.2.2.1 k) (by decide)) S.e (Nat.le_refl _) h2 (top + 1) (u - 1) top (fun u => u) f I2.2.2.1 (by omega) (by omega) (by rw [en]; exact hq2) (fun k hk => hfk k (by omega)) (fun k hk => by omega)
      rw [Nat.sub_self] at hC
      have p10 : 2 ^ S.e ≤ 2 ^ 10 := Nat.pow_le_pow_right (by decide) he
      have p10' : 2 ^ S.e ≤ 1024 := p10
      refine r_callV (M' := mL_treesOf) (pc := 587) (tL_law.at 319 rfl) ml_L_84 rfl mw_L_treesOf (fit_room (by omega) (by decide)) I2.2.2.1.1 rfl rfl hC rfl rfl (Nat.le_of_ble_eq_true rfl) (by show _ ≤ 600086; omega) (by show _ ≤ 7301441; omega) ?_
      rintro _ h3 t3 ⟨rfl, ht3, f3⟩
      have I3 := I2.fr (I2.1.frame fun a a1 a2 => f3 a (by omega)) (fun a a1 _ => f3 a a1) ht3
      refine r_lq (pc := 590) 596 (tL_law.at 320 rfl) (tL_law.at 321 rfl) (by decide) ?_ ?_
      · have e2 : trC Z.2.1 = trV S.W S.n := by
          unfold trC
          rw [if_neg (by omega), g.2.2.1, g.2.1]
        rw [e2, I2.2.2.2.2.2.2.2.2.2.1, en]
      refine r_widen (c2 := 2000) (s2 := 100000) (by omega) (by omega) ?_
      refine r_aload_n (pc := 596) (i := 0) (tL_law.at 324 rfl) rfl rfl ?_
      refine r_bipush (pc := 597) (w := nI 12) (tL_law.at 325 rfl) (by decide) ?_
      refine r_callS (M' := mL_cell) (pc := 599) (tL_law.at 326 rfl) ml_L_105 rfl mw_L_cell ⟨by decide, by decide⟩ (c_lCell hN (by omega)) rfl rfl (Nat.le_of_ble_eq_true rfl) (by show _ ≤ 600086; omega) (by show _ ≤ 7301441; omega) ?_
      rintro _ _ _ ⟨rfl, rfl, rfl⟩
      refine r_iload_n (pc := 602) (i := 3) (tL_law.at 327 rfl) rfl rfl ?_
      refine r_callS (M' := mL_bound) (pc := 603) (tL_law.at 328 rfl) ml_L_109 rfl mw_L_bound ⟨by decide, by decide⟩ (c_lBound (n := u) (by omega) (by omega)) rfl rfl (Nat.le_of_ble_eq_true rfl) (by show _ ≤ 600086; omega) (by show _ ≤ 7301441; omega) ?_
      rintro _ _ _ ⟨rfl, rfl, rfl⟩
      refine r_istore (pc := 606) (i := 6) (tL_law.at 329 rfl) (by decide) ?_
      refine r_fconst0 (pc := 608) (tL_law.at 330 rfl) ?_
      refine r_fstore (pc := 609) (i := 7) (tL_law.at 331 rfl) (by decide) ?_
      refine r_iconst (pc := 611) (w := nI 0) (tL_law.at 332 rfl) (by decide) ?_
      refine r_istore (pc := 612) (i := 8) (tL_law.at 333 rfl) (by decide) ?_
      refine r_ls (lwV v x u sb top (some (.int (nI (bnd (scF v 12) u)))) (some (.float (sFl (flN Z.2.1.W Z.2.1.n (bnd (scF v 12) u) (bnd (scF v 13) 20)) 0))) (some (.int (nI 0)))) rfl ?_
      exact law_floats hN hn (Nat.mod_lt _ (by omega)) u 0 (by omega) h3 t3 _ _ I3 (by decide) (by decide)
    | succ m ih =>
      intro u hu h1 f hq f1 hfk
      refine r_iload (pc := 557) (i := 6) (tL_law.at 302 rfl) rfl ?_
      refine r_iload_n (pc := 559) (i := 3) (tL_law.at 303 rfl) rfl rfl ?_
      refine r_icmp_geN (pc := 560) 576 (tL_law.at 304 rfl) (by decide) (by omega) (by omega) (fun c => by omega) (fun _ => ?_)
      refine r_aload (pc := 563) (i := 5) (tL_law.at 305 rfl) rfl ?_
      refine r_iload (pc := 565) (i := 6) (tL_law.at 306 rfl) rfl ?_
      refine r_iload (pc := 567) (i := 6) (tL_law.at 307 rfl) rfl ?_
      refine r_iast (pc := 569) (tL_law.at 308 rfl) (hq) (u) (rfl) (by omega) (by omega) ?_
      first | refine r_iincN (pc := 570) (tL_law.at 309 rfl) rfl (by decide) ?_ | refine r_iinc (pc := 570) (tL_law.at 309 rfl) rfl rfl (by decide) ?_
      refine r_goto (pc := 573) 557 (tL_law.at 310 rfl) (by decide) ?_
      refine r_ls (lwV v x n sb top (some (.int (nI (u + 1)))) c w) rfl ?_
      refine ih (u + 1) (by omega) _ (upd f u (nI u)) (hp_eq _ _ _) (fun a ha => (hp_ne _ _ ha).trans (f1 a ha)) (fun k hk => ?_)
      unfold upd
      by_cases d : k = u
      · rw [if_pos d, d]
      · rw [if_neg d]
        exact hfk k (by omega)
  refine r_ls (lwV v x n sb top (some (.int (nI 0))) c w) rfl ?_
  exact key n 0 (by omega) _ (fun _ => 0) (hp_eq _ _ _) (fun a ha => hp_ne _ _ ha) (fun k hk => absurd hk (Nat.not_lt_zero k))

