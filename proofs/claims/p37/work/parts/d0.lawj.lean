/-! ===== the law from its first instruction ===== -/
theorem isSBn.le {v : Ev} {h : Hp} {lo lo' b : Nat} {L : List Nat} (sb : isSBn v h lo b L) (hl : lo' ≤ lo) : isSBn v h lo' b L := by
  obtain ⟨val, cap, f, l1, l2, r⟩ := sb
  exact ⟨val, cap, f, l1, by omega, r⟩
theorem okW1 : okTx [119, 97, 108, 107, 32] := okTx_of (by decide) (by decide)
theorem okW2 : okTx [59] := okTx_of (by decide) (by decide)
theorem okW3 {n : Nat} (hn : n < 10) : okTx ([119, 97, 108, 107, 32] ++ [48 + n] ++ [59]) := okTx_of (by show 0 + 5 + 1 + 1 ≤ 1000; omega) (fun x hx => by
  simp only [List.mem_append, List.mem_cons, List.not_mem_nil, or_false] at hx
  omega)
theorem law_J {v : Ev} (hN : scN v ≤ 260) : J v mL_law room_1 (lwK v) (z0 v) 0 0 (fun _ => none) (z0 v) 0 (eL 9 [.ref (oA v 98)]) [] := by
  generalize hx : z0 v = x
  refine r_ls [some (.ref (oA v 98)), none, none, none, none, none, none, none, none] rfl ?_
  refine r_new (pc := 0) (tL_law.at 0 rfl) nw_L_39 (Nat.le_of_ble_eq_true rfl) (Nat.le_of_ble_eq_true rfl) (fun fr0 => ?_)
  refine r_dup (pc := 3) (tL_law.at 1 rfl) rfl ?_
  refine r_callI (M' := mX10_init) (pc := 4) (tL_law.at 2 rfl) (Or.inl ml_L_103) rfl rfl mw_X10_init ⟨by decide, by decide⟩ (c_xInit (x := x) (hp_eq _ _ _)) rfl rfl (Nat.le_of_ble_eq_true rfl) (by show _ ≤ 600086; omega) (by show _ ≤ 7301441; omega) ?_
  rintro _ h1 _ ⟨rfl, rfl, K1, -⟩
  refine r_astore_n (pc := 7) (i := 1) (tL_law.at 3 rfl) rfl (by decide) ?_
  refine r_new (pc := 8) (tL_law.at 4 rfl) nw_L_10 (Nat.le_of_ble_eq_true rfl) (Nat.le_of_ble_eq_true rfl) (fun fr8 => ?_)
  refine r_dup (pc := 11) (tL_law.at 5 rfl) rfl ?_
  refine r_callI (M' := mL_init) (pc := 12) (tL_law.at 6 rfl) (Or.inl ml_L_104) rfl rfl mw_L_init ⟨by decide, by decide⟩ (c_lInit (y := x + 96) (hp_eq _ _ _)) rfl rfl (Nat.le_of_ble_eq_true rfl) (by show _ ≤ 600086; omega) (by show _ ≤ 7301441; omega) ?_
  rintro _ h2 _ ⟨rfl, rfl, L2, f2⟩
  have K2 : okX v h2 x (Z0 v) := (K1.frame (h' := hp h1 (x + 96) _) fun q q1 q2 => hp_ne _ _ (by omega)).frame fun q q1 q2 => f2 q (by omega)
  refine r_astore_n (pc := 15) (i := 2) (tL_law.at 7 rfl) rfl (by decide) ?_
  refine r_aload_n (pc := 16) (i := 2) (tL_law.at 8 rfl) rfl rfl ?_
  refine r_iconst (pc := 17) (w := nI 2) (tL_law.at 9 rfl) (by decide) ?_
  refine r_aload_n (pc := 18) (i := 0) (tL_law.at 10 rfl) rfl rfl ?_
  refine r_iconst (pc := 19) (w := nI 0) (tL_law.at 11 rfl) (by decide) ?_
  refine r_callS (M' := mL_cell) (pc := 20) (tL_law.at 12 rfl) ml_L_105 rfl mw_L_cell ⟨by decide, by decide⟩ (c_lCell hN (by omega)) rfl rfl (Nat.le_of_ble_eq_true rfl) (by show _ ≤ 600086; omega) (by show _ ≤ 7301441; omega) ?_
  rintro _ _ _ ⟨rfl, rfl, rfl⟩
  refine r_iconst (pc := 23) (w := nI 4) (tL_law.at 13 rfl) (by decide) ?_
  refine r_callS (M' := mL_bound) (pc := 24) (tL_law.at 14 rfl) ml_L_109 rfl mw_L_bound ⟨by decide, by decide⟩ (c_lBound (by decide) (by decide)) rfl rfl (Nat.le_of_ble_eq_true rfl) (by show _ ≤ 600086; omega) (by show _ ≤ 7301441; omega) ?_
  rintro _ _ _ ⟨rfl, rfl, rfl⟩
  first | refine r_iaddN (pc := 27) (tL_law.at 15 rfl) ?_ | refine r_iadd (pc := 27) (tL_law.at 15 rfl) ?_
  generalize hnn : 2 + bnd (scF v 0) 4 = n
  have hn : 2 ≤ n ∧ n ≤ 5 := by
    have : bnd (scF v 0) 4 < 4 := Nat.mod_lt _ (by decide)
    omega
  refine r_put (pc := 28) (tL_law.at 16 rfl) pf_L_52 L2.1 (Nat.le_of_ble_eq_true rfl) rfl rfl ?_
  have L3 := L2.pH n 0 0
  refine r_eq (h2 := hp h2 (x + 96) (ltE (x + 96) (L00.sH n 0 0))) rfl rfl ?_
  have f3 : ∀ q, q ≠ x + 96 → hp h2 (x + 96) (ltE (x + 96) (L00.sH n 0 0)) q = h2 q := fun q hq => hp_ne _ _ hq
  generalize hp h2 (x + 96) (ltE (x + 96) (L00.sH n 0 0)) = h3 at L3 f3 ⊢
  have K3 : okX v h3 x (Z0 v) := K2.frame fun q q1 q2 => f3 q (by omega)
  refine r_aload_n (pc := 31) (i := 2) (tL_law.at 17 rfl) rfl rfl ?_
  refine r_get (pc := 32) (tL_law.at 18 rfl) gf_L_52 (L3.1) rfl ?_
  refine r_istore_n (pc := 35) (i := 3) (tL_law.at 19 rfl) rfl (by decide) ?_
  rw [show x + 96 + 18 = x + 114 from rfl]
  refine r_new (pc := 36) (tL_law.at 20 rfl) nw_L_113 (Nat.le_of_ble_eq_true rfl) (Nat.le_of_ble_eq_true rfl) (fun fr36 => ?_)
  refine r_dup (pc := 39) (tL_law.at 21 rfl) rfl ?_
  refine r_new (pc := 40) (tL_law.at 22 rfl) nw_L_113 (Nat.le_of_ble_eq_true rfl) (Nat.le_of_ble_eq_true rfl) (fun fr40 => ?_)
  refine r_dup (pc := 43) (tL_law.at 23 rfl) rfl ?_
  rw [show x + 114 + 1 = x + 115 from rfl, show x + 115 + 1 = x + 116 from rfl]
  have e4 : ∀ q, q < x + 114 → hp (hp h3 (x + 114) (ob 12 [.null, .int 0, .int 0, .int 0])) (x + 115) (ob 12 [.null, .int 0, .int 0, .int 0]) q = h3 q := fun q hq => by
    rw [hp_ne _ _ (by omega), hp_ne _ _ (by omega)]
  have g4 : hp (hp h3 (x + 114) (ob 12 [.null, .int 0, .int 0, .int 0])) (x + 115) (ob 12 [.null, .int 0, .int 0, .int 0]) (x + 114) = some (ob 12 [.null, .int 0, .int 0, .int 0]) := by
    rw [hp_ne _ _ (by omega), hp_eq]
  have g5 : hp (hp h3 (x + 114) (ob 12 [.null, .int 0, .int 0, .int 0])) (x + 115) (ob 12 [.null, .int 0, .int 0, .int 0]) (x + 115) = some (ob 12 [.null, .int 0, .int 0, .int 0]) := hp_eq _ _ _
  refine r_eq (h2 := hp (hp h3 (x + 114) (ob 12 [.null, .int 0, .int 0, .int 0])) (x + 115) (ob 12 [.null, .int 0, .int 0, .int 0])) rfl rfl ?_
  generalize hp (hp h3 (x + 114) (ob 12 [.null, .int 0, .int 0, .int 0])) (x + 115) (ob 12 [.null, .int 0, .int 0, .int 0]) = h4 at e4 g4 g5 ⊢
  refine r_callI (M' := mJ4_init_da8c8) (pc := 44) (tL_law.at 24 rfl) (Or.inl ml_L_115) rfl rfl mw_J4_init_da8c8 ⟨by decide, by decide⟩ (c_sb0n (lo := x + 116) g5 (Nat.le_refl _)) rfl rfl (Nat.le_of_ble_eq_true rfl) (by show _ ≤ 600086; omega) (by show _ ≤ 7301441; omega) ?_
  rintro _ h5 t5 ⟨rfl, u5, B5, f5⟩
  obtain ⟨_, c5⟩ := B5.cell
  refine r_ldcS 9 (pc := 47) (tL_law.at 25 rfl) rfl ?_
  refine r_callV (M' := mJ4_append_15ec4) (pc := 49) (tL_law.at 26 rfl) ml_L_118 rfl mw_J4_append_15ec4 ⟨by decide, by decide⟩ (c5) rfl rfl (c_appSn B5 (loS_lit (i := 9) (by decide +kernel) (by decide +kernel)) okW1 (by decide) (by omega)) rfl rfl (Nat.le_of_ble_eq_true rfl) (by show _ ≤ 600086; omega) (by show _ ≤ 7301441; omega) ?_
  rintro _ h6 t6 ⟨rfl, u6, B6, f6⟩
  obtain ⟨_, c6⟩ := B6.cell
  refine r_iload_n (pc := 52) (i := 3) (tL_law.at 27 rfl) rfl rfl ?_
  refine r_callV (M' := mJ4_append_bf812) (pc := 53) (tL_law.at 28 rfl) ml_L_121 rfl mw_J4_append_bf812 ⟨by decide, by decide⟩ (c6) rfl rfl (c_appIn B6 (show n < 10 by omega) (by decide) (by omega)) rfl rfl (Nat.le_of_ble_eq_true rfl) (by show _ ≤ 600086; omega) (by show _ ≤ 7301441; omega) ?_
  rintro _ h7 t7 ⟨rfl, u7, B7, f7⟩
  obtain ⟨_, c7⟩ := B7.cell
  refine r_ldcS 10 (pc := 56) (tL_law.at 29 rfl) rfl ?_
  refine r_callV (M' := mJ4_append_15ec4) (pc := 58) (tL_law.at 30 rfl) ml_L_118 rfl mw_J4_append_15ec4 ⟨by decide, by decide⟩ (c7) rfl rfl (c_appSn B7 (loS_lit (i := 10) (by decide +kernel) (by decide +kernel)) okW2 (by show 0 + 5 + 1 + 1 ≤ 200; omega) (by omega)) rfl rfl (Nat.le_of_ble_eq_true rfl) (by show _ ≤ 600086; omega) (by show _ ≤ 7301441; omega) ?_
  rintro _ h8 t8 ⟨rfl, u8, B8, f8⟩
  obtain ⟨_, c8⟩ := B8.cell
  refine r_callV (M' := mJ4_toString_0e30d) (pc := 61) (tL_law.at 31 rfl) ml_L_126 rfl mw_J4_toString_0e30d ⟨by decide, by decide⟩ (c8) rfl rfl (c_toStr B8) rfl rfl (Nat.le_of_ble_eq_true rfl) (by show _ ≤ 600086; omega) (by show _ ≤ 7301441; omega) ?_
  rintro _ h9 _ ⟨rfl, rfl, sT, f9⟩
  rw [List.nil_append] at sT
  have ff : ∀ q, q < x + 115 → h9 q = h4 q := fun q hq => (f9 q (by omega)).trans ((f8 q (by omega) (by omega)).trans ((f7 q (by omega) (by omega)).trans ((f6 q (by omega) (by omega)).trans (f5 q (by omega) (by omega)))))
  refine r_callI (M' := mJ4_init_a7421) (pc := 64) (tL_law.at 32 rfl) (Or.inl ml_L_130) rfl rfl mw_J4_init_a7421 ⟨by decide, by decide⟩ (c_sbSn (lo := t8 + 2) ((ff (x + 114) (by omega)).trans g4) (sT.lo (Nat.le_refl _)) (okW3 (show n < 10 by omega)) (by show 0 + 5 + 1 + 1 ≤ 100; omega) (Nat.le_refl _)) rfl rfl (Nat.le_of_ble_eq_true rfl) (by show _ ≤ 600086; omega) (by show _ ≤ 7301441; omega) ?_
  rintro _ h10 t10 ⟨rfl, u10, B10, f10⟩
  refine r_astore (pc := 67) (i := 4) (tL_law.at 33 rfl) (by decide) ?_
  refine r_iconst (pc := 69) (w := nI 0) (tL_law.at 34 rfl) (by decide) ?_
  refine r_istore (pc := 70) (i := 5) (tL_law.at 35 rfl) (by decide) ?_
  have fe : ∀ q, q < x + 114 → h10 q = h3 q := fun q hq => (f10 q (by omega) (by omega)).trans ((ff q (by omega)).trans (e4 q hq))
  subst hx
  refine r_ls (lwM v (z0 v) n (z0 v + 114) 0 none none none) rfl ?_
  refine r_widen (c2 := 300) (s2 := 30000) (Nat.le_of_ble_eq_true rfl) (Nat.le_of_ble_eq_true rfl) ?_
  refine law_outer hN hn (fun h top b c w cells slots I hc hs => ?_) n 0 (by omega) h10 t10 none none none 300 30000 ⟨K3.frame fun q q1 q2 => fe q (by omega), ?_, ?_, by omega⟩ (Nat.le_add_right _ _) (Nat.le_add_right _ _)
  · refine r_iconst (pc := 374) (w := nI 0) (tL_law.at 207 rfl) (by decide) ?_
    refine r_istore (pc := 375) (i := 5) (tL_law.at 208 rfl) (by decide) ?_
    refine r_ls (lwU v (z0 v) n (z0 v + 114) 0 b c w) rfl ?_
    refine law_absb hN hn (fun h top cells slots I hc hs => ?_) n 0 (by omega) h top cells slots (LI.la hn.2 I) (by omega) (by omega)
    refine law_read hn I hc hs (fun h top S Z cc cells slots I hc hs => ?_)
    refine r_iconst (pc := 473) (w := nI 0) (tL_law.at 257 rfl) (by decide) ?_
    refine r_istore (pc := 474) (i := 5) (tL_law.at 258 rfl) (by decide) ?_
    refine r_ls (lwU v (z0 v) n (z0 v + 114) 0 b c w) rfl ?_
    exact law_hits hn (fun h top cells slots I hc hs => law_end hN hn I hc hs) n 0 (by omega) h top cells slots I (by omega) (by omega)
  · exact L3.agr fun q q1 q2 => fe q (by omega)
  · refine ⟨Nat.le_refl _, ?_⟩
    have e : wkTx n ++ edT (prE (pWv v) (pFv v) (allP n 0)) = [119, 97, 108, 107, 32] ++ [48 + n] ++ [59] := rfl
    rw [e]
    exact B10.le (by omega)

