/-! ===== the law: the text is read ===== -/
theorem okCo : okTx coTx := okTx_of (by decide) (by decide)
theorem fit_room {M' : Md} {d' : Nat} (h : d' ≤ 130) (hm : M'.2.2.1 ≤ 41) : Fits room_1 M' d' := by
  refine ⟨by show d' + 1 ≤ 2048; omega, ?_⟩
  show 8 + (M'.2.2.1 + 11) + 60 * d' ≤ 84000
  omega
theorem law_read {v : Ev} {x n sb cells slots top : Nat} {h : Hp} {b c w : Option Value} (hn : 2 ≤ n ∧ n ≤ 5) (I : LA v h top x n sb n) (hc : cells ≤ 500) (hs : slots ≤ 70000)
    (kk : ∀ (h : Hp) (top : Nat) (S : LT) (Z : CS) (cc : Nat → Int) (cells slots : Nat), LZ v h top x n S Z cc → cells ≤ 600 → slots ≤ 80000 → J v mL_law room_1 (lwK v) (z0 v) cells slots h top 473 (lwU v x n sb n b c w) []) :
    J v mL_law room_1 (lwK v) (z0 v) cells slots h top 439 (lwU v x n sb n b c w) [] := by
  obtain ⟨K, L, B, ht⟩ := I
  have lT := txA_len (v := v) (n := n) (u := n) hn.2 (by omega)
  obtain ⟨ok, l10⟩ := okAll hn.2
  obtain ⟨_, g0⟩ := B.cell
  refine r_aload_n (pc := 439) (i := 1) (tL_law.at 241 rfl) rfl rfl ?_
  refine r_aload (pc := 440) (i := 4) (tL_law.at 242 rfl) rfl ?_
  refine r_ldcS 13 (pc := 442) (tL_law.at 243 rfl) rfl ?_
  refine r_callV (M' := mJ4_append_15ec4) (pc := 444) (tL_law.at 244 rfl) ml_L_118 rfl mw_J4_append_15ec4 ⟨by decide, by decide⟩ (g0) rfl rfl (c_appS B (loS_lit (i := 13) (by decide +kernel) (by decide +kernel)) okCo (by show _ + 32 ≤ 200; omega) ht) rfl rfl (Nat.le_of_ble_eq_true rfl) (by show _ ≤ 600086; omega) (by show _ ≤ 7301441; omega) ?_
  rintro _ h1 t1 ⟨rfl, u1, B1, f1⟩
  obtain ⟨_, g1⟩ := B1.cell
  refine r_callV (M' := mJ4_toString_0e30d) (pc := 447) (tL_law.at 245 rfl) ml_L_126 rfl mw_J4_toString_0e30d ⟨by decide, by decide⟩ (g1) rfl rfl (c_toStrL B1) rfl rfl (Nat.le_of_ble_eq_true rfl) (by show _ ≤ 600086; omega) (by show _ ≤ 7301441; omega) ?_
  rintro _ h2 _ ⟨rfl, rfl, sT, f2⟩
  have K2 : okX v h2 x (Z0 v) := (K.frame fun q q1 q2 => f1 q (by omega)).frame fun q q1 q2 => f2 q (by omega)
  have L2 : isLw v h2 (x + 96) (lwS v n n) := (L.agr fun q q1 q2 => f1 q (by omega)).agr fun q q1 q2 => f2 q (by omega)
  have z : okZ (Z0 v) := ⟨⟨Nat.zero_le _, Nat.zero_le _, by show 0 < 64; decide, fun _ _ => Nat.zero_le _, fun _ _ => Nat.zero_le _⟩, Nat.zero_le _, by show 0 < 8; decide, Nat.zero_le _, Nat.zero_le _⟩
  generalize eL : txA v n n ++ coTx = TX at B1 sT
  have lL : TX.length ≤ 200 := by
    rw [← eL, List.length_append]
    show _ + 32 ≤ 200
    omega
  have okL : okTx TX := by
    rw [← eL, lw_txA]
    refine tx_ok (by omega) (prE_b hn.2 (pWv_le v) ok) (fun u hu => by
      have := (asc_mem hu).1
      omega) ?_
    rw [← lw_txA, eL]
    omega
  refine r_callS (M' := mL_read) (pc := 450) (tL_law.at 246 rfl) ml_L_150 rfl mw_L_read ⟨by decide, by decide⟩ (c_read (top := t1 + 2) K2 z rfl (fun _ => by show 0 < 256; decide) (by omega) (fun h3 f3 => ((sT.up (f3 t1 (by omega) (by omega)) (f3 (t1 + 1) (by omega) (by omega))).lo (Nat.le_refl _)).is) okL lL) rfl rfl (Nat.le_of_ble_eq_true rfl) (by show _ ≤ 600086; omega) (by show _ ≤ 7301441; omega) ?_
  rintro _ h4 t4 ⟨h3, top1, bb, hd, f3, ht3, hbL, hb6, R1, q1, q2, ⟨t2, q3, q4⟩, rfl, q5, q6, q7⟩
  obtain ⟨R', e1, r1, r2, r3, r4, r5, r6, r7, r8⟩ := read_all (F := top1) hn eL.symm hbL q4
  rw [e1] at q5 q6 q7 ⊢
  rcases q7 with ⟨-, -, q7⟩ | ⟨rfl, f4, q7⟩
  · have := q7 rfl
    rw [r1] at this
    cases this
  · obtain ⟨-, cell⟩ := q7 rfl
    dsimp only at cell
    rw [r2] at cell
    have L4 : isLw v h4 (x + 96) (lwS v n n) := (L2.agr fun q k1 k2 => f3 q (by omega) (by omega)).agr fun q k1 k2 => f4 q (by omega) (by omega)
    have I4 := lz_pure (F := top1) (top := top1 + 1) hn (by omega) ⟨by omega, by omega⟩ q6.2.2.1 r1 r2 r3 r4 r5 r6 r7 r8 cell q5 L4
    have ee : R'.G.e = (lwS v n n).e := r8.2.1
    have eI : ldR (true, R') = nI R'.G.e := rfl
    rw [eI]
    have le : (lwS v n n).e ≤ 10 := I4.2.2.2.2.2.2.2.2.2.2.1
    refine r_eq rfl (st2 := [.int (nI R'.G.e)]) rfl ?_
    refine r_aload_n (pc := 453) (i := 2) (tL_law.at 247 rfl) rfl rfl ?_
    refine r_get (pc := 454) (tL_law.at 248 rfl) gf_L_81 (L4.1) rfl ?_
    refine r_icmp_neN (pc := 457) 471 (tL_law.at 249 rfl) (by decide) (by omega) (by omega) (fun k => absurd ee k) (fun _ => ?_)
    generalize hZ : ldZ (((Z0 v).1.1, bb, hd), (Z0 v).2) (true, R') = Z at I4
    generalize hS : lwE v n Z.2.1 (cdC R') = S at I4
    refine r_aload_n (pc := 460) (i := 1) (tL_law.at 250 rfl) rfl rfl ?_
    refine r_callV (M' := mX10_absorbing) (pc := 461) (tL_law.at 251 rfl) ml_L_154 rfl mw_X10_absorbing ⟨by decide, by decide⟩ (I4.1.1.1) rfl rfl (c_absb I4.1) rfl rfl (Nat.le_of_ble_eq_true rfl) (by show _ ≤ 600086; omega) (by show _ ≤ 7301441; omega) ?_
    rintro _ _ _ ⟨rfl, rfl, K5, f5⟩
    have I5 := I4.fr K5 f5.t (Nat.le_refl _)
    refine r_aload_n (pc := 464) (i := 2) (tL_law.at 252 rfl) rfl rfl ?_
    refine r_get (pc := 465) (tL_law.at 253 rfl) gf_L_71 (I5.2.2.1.1) rfl ?_
    have ga := I5.2.2.2.1.2.2.2.2.1
    have ga2 := I5.2.2.2.1.2.2.2.2.2.2.2.2.2
    refine r_icmp_eqN (pc := 468) 473 (tL_law.at 254 rfl) (by decide) (by omega) (by omega) (fun _ => ?_) (fun k => absurd ga k)
    exact kk _ _ S Z (cdC R') _ _ I5 (by omega) (by omega)

