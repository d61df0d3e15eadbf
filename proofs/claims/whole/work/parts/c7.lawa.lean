/-! ===== the law: the calls 0 to 8 ===== -/
section
variable {v : Ev} {h : Hp} {top x b L i cells slots : Nat} {xs : Nat → Int32} {Z : CS} {S : MS}
theorem lw_0 (I : Inv v h top x Z S) (hbz : b < z0 v) (hi : i + 6 ≤ L) (hL : L ≤ 3072) (hc : cells + 1 ≤ 601024) (hs : slots + 600 ≤ 7293034) (hk : lwK v b L xs x i cells slots) : J v mL_law room_1 (lwQ2 b L xs lw_Z) (z0 v) cells slots h top 196 (lwS b x i) [] := by
  obtain ⟨_, E, ⟨y, rfl⟩, hC, hM⟩ := op_append I (xs (i + 1)) (xs (i + 2)) (xs (i + 3)) (xs (i + 4)) (xs (i + 5))
  refine r_aload_n (pc := 196) (i := 1) (tLw0.at 0 rfl) rfl rfl ?_
  refine r_aload_n (pc := 197) (i := 0) (tLw0.at 1 rfl) rfl rfl ?_
  refine r_iload (pc := 198) (i := 5) (tLw0.at 2 rfl) rfl ?_
  refine r_iconst (pc := 200) (w := nI 1) (tLw0.at 3 rfl) (by decide) ?_
  first | refine r_iaddN (pc := 201) (tLw0.at 4 rfl) ?_ | refine r_iadd (pc := 201) (tLw0.at 4 rfl) ?_
  refine r_sld (pc := 202) (tLw0.at 5 rfl) hbz rfl (by omega) hL ?_
  refine r_aload_n (pc := 203) (i := 0) (tLw0.at 6 rfl) rfl rfl ?_
  refine r_iload (pc := 204) (i := 5) (tLw0.at 7 rfl) rfl ?_
  refine r_iconst (pc := 206) (w := nI 2) (tLw0.at 8 rfl) (by decide) ?_
  first | refine r_iaddN (pc := 207) (tLw0.at 9 rfl) ?_ | refine r_iadd (pc := 207) (tLw0.at 9 rfl) ?_
  refine r_sld (pc := 208) (tLw0.at 10 rfl) hbz rfl (by omega) hL ?_
  refine r_aload_n (pc := 209) (i := 0) (tLw0.at 11 rfl) rfl rfl ?_
  refine r_iload (pc := 210) (i := 5) (tLw0.at 12 rfl) rfl ?_
  refine r_iconst (pc := 212) (w := nI 3) (tLw0.at 13 rfl) (by decide) ?_
  first | refine r_iaddN (pc := 213) (tLw0.at 14 rfl) ?_ | refine r_iadd (pc := 213) (tLw0.at 14 rfl) ?_
  refine r_sld (pc := 214) (tLw0.at 15 rfl) hbz rfl (by omega) hL ?_
  refine r_aload_n (pc := 215) (i := 0) (tLw0.at 16 rfl) rfl rfl ?_
  refine r_iload (pc := 216) (i := 5) (tLw0.at 17 rfl) rfl ?_
  refine r_iconst (pc := 218) (w := nI 4) (tLw0.at 18 rfl) (by decide) ?_
  first | refine r_iaddN (pc := 219) (tLw0.at 19 rfl) ?_ | refine r_iadd (pc := 219) (tLw0.at 19 rfl) ?_
  refine r_sld (pc := 220) (tLw0.at 20 rfl) hbz rfl (by omega) hL ?_
  refine r_aload_n (pc := 221) (i := 0) (tLw0.at 21 rfl) rfl rfl ?_
  refine r_iload (pc := 222) (i := 5) (tLw0.at 22 rfl) rfl ?_
  refine r_iconst (pc := 224) (w := nI 5) (tLw0.at 23 rfl) (by decide) ?_
  first | refine r_iaddN (pc := 225) (tLw0.at 24 rfl) ?_ | refine r_iadd (pc := 225) (tLw0.at 24 rfl) ?_
  refine r_sld (pc := 226) (tLw0.at 25 rfl) hbz rfl (by omega) hL ?_
  refine r_callV (M' := mX10_append) (pc := 227) (tLw0.at 26 rfl) ml_L_94 rfl mw_X10_append ⟨by decide, by decide⟩ I.1.1.1 rfl rfl hC rfl rfl (Nat.le_of_ble_eq_true rfl) (by show cells + 0 ≤ 601024; omega) (by show slots + 0 ≤ 7293034; omega) ?_
  rintro _ h1 top1 ⟨rfl, hE⟩
  obtain ⟨⟨fs, hfs⟩, hM2⟩ := hM h1 top1 hE
  refine r_aload_n (pc := 230) (i := 2) (tLw0.at 27 rfl) rfl rfl ?_
  refine r_aload_n (pc := 231) (i := 0) (tLw0.at 28 rfl) rfl rfl ?_
  refine r_iload (pc := 232) (i := 5) (tLw0.at 29 rfl) rfl ?_
  refine r_iconst (pc := 234) (w := nI 1) (tLw0.at 30 rfl) (by decide) ?_
  first | refine r_iaddN (pc := 235) (tLw0.at 31 rfl) ?_ | refine r_iadd (pc := 235) (tLw0.at 31 rfl) ?_
  refine r_sld (pc := 236) (tLw0.at 32 rfl) hbz rfl (by omega) hL ?_
  refine r_aload_n (pc := 237) (i := 0) (tLw0.at 33 rfl) rfl rfl ?_
  refine r_iload (pc := 238) (i := 5) (tLw0.at 34 rfl) rfl ?_
  refine r_iconst (pc := 240) (w := nI 2) (tLw0.at 35 rfl) (by decide) ?_
  first | refine r_iaddN (pc := 241) (tLw0.at 36 rfl) ?_ | refine r_iadd (pc := 241) (tLw0.at 36 rfl) ?_
  refine r_sld (pc := 242) (tLw0.at 37 rfl) hbz rfl (by omega) hL ?_
  refine r_aload_n (pc := 243) (i := 0) (tLw0.at 38 rfl) rfl rfl ?_
  refine r_iload (pc := 244) (i := 5) (tLw0.at 39 rfl) rfl ?_
  refine r_iconst (pc := 246) (w := nI 3) (tLw0.at 40 rfl) (by decide) ?_
  first | refine r_iaddN (pc := 247) (tLw0.at 41 rfl) ?_ | refine r_iadd (pc := 247) (tLw0.at 41 rfl) ?_
  refine r_sld (pc := 248) (tLw0.at 42 rfl) hbz rfl (by omega) hL ?_
  refine r_aload_n (pc := 249) (i := 0) (tLw0.at 43 rfl) rfl rfl ?_
  refine r_iload (pc := 250) (i := 5) (tLw0.at 44 rfl) rfl ?_
  refine r_iconst (pc := 252) (w := nI 4) (tLw0.at 45 rfl) (by decide) ?_
  first | refine r_iaddN (pc := 253) (tLw0.at 46 rfl) ?_ | refine r_iadd (pc := 253) (tLw0.at 46 rfl) ?_
  refine r_sld (pc := 254) (tLw0.at 47 rfl) hbz rfl (by omega) hL ?_
  refine r_aload_n (pc := 255) (i := 0) (tLw0.at 48 rfl) rfl rfl ?_
  refine r_iload (pc := 256) (i := 5) (tLw0.at 49 rfl) rfl ?_
  refine r_iconst (pc := 258) (w := nI 5) (tLw0.at 50 rfl) (by decide) ?_
  first | refine r_iaddN (pc := 259) (tLw0.at 51 rfl) ?_ | refine r_iadd (pc := 259) (tLw0.at 51 rfl) ?_
  refine r_sld (pc := 260) (tLw0.at 52 rfl) hbz rfl (by omega) hL ?_
  refine r_callV (M' := mX11_append) (pc := 261) (tLw0.at 53 rfl) ml_L_98 rfl mw_X11_append ⟨by decide, by decide⟩ hfs rfl rfl hM2 rfl rfl (Nat.le_of_ble_eq_true rfl) (by show cells + 0 + 0 ≤ 601024; omega) (by show slots + 0 + 0 ≤ 7293034; omega) ?_
  rintro _ h2 top2 ⟨rfl, rfl, Z', S', I2⟩
  refine r_icmp_eq (pc := 264) 2157 (tLw0.at 54 rfl) (by decide) (fun _ => ?_) (fun c => absurd rfl c)
  exact r_wide (k := cells + 1) (n := slots + 600) (by omega) (by omega) (hk _ _ _ _ I2)
theorem lw_1 (I : Inv v h top x Z S) (hbz : b < z0 v) (hi : i + 6 ≤ L) (hL : L ≤ 3072) (hc : cells + 1 ≤ 601024) (hs : slots + 600 ≤ 7293034) (hk : lwK v b L xs x i cells slots) : J v mL_law room_1 (lwQ2 b L xs lw_Z) (z0 v) cells slots h top 269 (lwS b x i) [] := by
  obtain ⟨t, y, d, mc, ms, E, ⟨ht3, hd, hmc, hms⟩, hC, hM⟩ := op_load I (xs (i + 1))
  refine r_aload_n (pc := 269) (i := 1) (tLw1.at 0 rfl) rfl rfl ?_
  refine r_aload_n (pc := 270) (i := 0) (tLw1.at 1 rfl) rfl rfl ?_
  refine r_iload (pc := 271) (i := 5) (tLw1.at 2 rfl) rfl ?_
  refine r_iconst (pc := 273) (w := nI 1) (tLw1.at 3 rfl) (by decide) ?_
  first | refine r_iaddN (pc := 274) (tLw1.at 4 rfl) ?_ | refine r_iadd (pc := 274) (tLw1.at 4 rfl) ?_
  refine r_sld (pc := 275) (tLw1.at 5 rfl) hbz rfl (by omega) hL ?_
  refine r_aload_n (pc := 276) (i := 3) (tLw1.at 6 rfl) rfl rfl ?_
  refine r_callSH (M' := mL_load) (pc := 277) (tLw1.at 7 rfl) ml_L_99 rfl mw_L_load ⟨by show d + 1 ≤ 2048; omega, by show 8 + (4 + 11) + 60 * d ≤ 84000; omega⟩ hC rfl rfl (Nat.le_of_ble_eq_true rfl) (by show cells + mc ≤ 601024; omega) (by show slots + ms ≤ 7293034; omega) ?_
  rintro _ h1 top1 ⟨rfl, hE, fo, hfo, hfy⟩
  obtain ⟨⟨fs, hfs⟩, hM2⟩ := hM h1 top1 hE
  refine r_istore (pc := 280) (i := 6) (tLw1.at 8 rfl) (by decide) ?_
  refine r_aload_n (pc := 282) (i := 2) (tLw1.at 9 rfl) rfl rfl ?_
  refine r_aload_n (pc := 283) (i := 0) (tLw1.at 10 rfl) rfl rfl ?_
  refine r_iload (pc := 284) (i := 5) (tLw1.at 11 rfl) rfl ?_
  refine r_iconst (pc := 286) (w := nI 1) (tLw1.at 12 rfl) (by decide) ?_
  first | refine r_iaddN (pc := 287) (tLw1.at 13 rfl) ?_ | refine r_iadd (pc := 287) (tLw1.at 13 rfl) ?_
  refine r_sld (pc := 288) (tLw1.at 14 rfl) hbz rfl (by omega) hL ?_
  refine r_callV (M' := mX11_load) (pc := 289) (tLw1.at 15 rfl) ml_L_104 rfl mw_X11_load ⟨by decide, by decide⟩ hfs rfl rfl hM2 rfl rfl (Nat.le_of_ble_eq_true rfl) (by show cells + mc + 0 ≤ 601024; omega) (by show slots + ms + 0 ≤ 7293034; omega) ?_
  rintro _ h2 top2 ⟨_, rfl, ⟨bb, rfl, hbb⟩, rfl, h110, Z', S', I2, hth⟩
  refine r_istore (pc := 292) (i := 7) (tLw1.at 16 rfl) (by decide) ?_
  refine r_aload_n (pc := 294) (i := 2) (tLw1.at 17 rfl) rfl rfl ?_
  refine r_callV (M' := mX11_thrown) (pc := 295) (tLw1.at 18 rfl) ml_L_105 rfl mw_X11_thrown ⟨by decide, by decide⟩ I2.mo rfl rfl (c_thr I2) rfl rfl (Nat.le_of_ble_eq_true rfl) (by show cells + mc + 0 + 0 ≤ 601024; omega) (by show slots + ms + 0 + 0 ≤ 7293034; omega) ?_
  rintro _ _ _ ⟨rfl, rfl, rfl⟩
  refine r_iload (pc := 298) (i := 6) (tLw1.at 19 rfl) rfl ?_
  refine r_icmp_eq (pc := 300) 305 (tLw1.at 20 rfl) (by decide) (fun _ => ?_) (fun c => absurd (by rw [hth]) c)
  refine r_iload (pc := 305) (i := 6) (tLw1.at 23 rfl) rfl ?_
  refine r_if_ne (pc := 307) 322 (tLw1.at 24 rfl) (by decide) (fun _ => ?_) (fun c => ?_)
  · refine r_goto (pc := 322) 2157 (tLw1.at 34 rfl) (by decide) ?_
    refine r_ls [some (.ref b), some (.ref x), some (.ref (x + 96)), some (.ref (x + 110)), some (.ref (x + 111)), some (.int (nI i)), some (.int (nI t)), some (.int bb), none] rfl (r_drop ?_)
    exact r_wide (k := cells + 1) (n := slots + 600) (by omega) (by omega) (hk _ _ _ _ I2)
  · have t0 : t = 0 := nI_z3 t ht3 c
    rw [← h110] at hfo
    refine r_aload_n (pc := 310) (i := 3) (tLw1.at 25 rfl) rfl rfl ?_
    refine r_iconst (pc := 311) (w := nI 0) (tLw1.at 26 rfl) (by decide) ?_
    refine r_lald (pc := 312) (tLw1.at 27 rfl) hfo 0 rfl (by omega) (Nat.le_of_ble_eq_true rfl) ?_
    rw [hfy t0, ← hbb t0]
    refine r_iload (pc := 313) (i := 7) (tLw1.at 28 rfl) rfl ?_
    refine r_i2l (pc := 315) (tLw1.at 29 rfl) ?_
    refine r_lq (pc := 316) 322 (tLw1.at 30 rfl) (tLw1.at 31 rfl) (by decide) rfl ?_
    refine r_goto (pc := 322) 2157 (tLw1.at 34 rfl) (by decide) ?_
    refine r_ls [some (.ref b), some (.ref x), some (.ref (x + 96)), some (.ref (x + 110)), some (.ref (x + 111)), some (.int (nI i)), some (.int (nI t)), some (.int bb), none] rfl (r_drop ?_)
    exact r_wide (k := cells + 1) (n := slots + 600) (by omega) (by omega) (hk _ _ _ _ I2)
theorem lw_2 (I : Inv v h top x Z S) (hbz : b < z0 v) (hi : i + 6 ≤ L) (hL : L ≤ 3072) (hc : cells + 1 ≤ 601024) (hs : slots + 600 ≤ 7293034) (hk : lwK v b L xs x i cells slots) : J v mL_law room_1 (lwQ2 b L xs lw_Z) (z0 v) cells slots h top 325 (lwS b x i) [] := by
  obtain ⟨_, E, ⟨y, rfl⟩, hC, hM⟩ := op_errorOffset I
  refine r_aload_n (pc := 325) (i := 1) (tLw2.at 0 rfl) rfl rfl ?_
  refine r_callV (M' := mX10_errorOffset) (pc := 326) (tLw2.at 1 rfl) ml_L_109 rfl mw_X10_errorOffset ⟨by decide, by decide⟩ I.1.1.1 rfl rfl hC rfl rfl (Nat.le_of_ble_eq_true rfl) (by show cells + 0 ≤ 601024; omega) (by show slots + 0 ≤ 7293034; omega) ?_
  rintro _ h1 top1 ⟨rfl, hE⟩
  obtain ⟨⟨fs, hfs⟩, hM2⟩ := hM h1 top1 hE
  refine r_aload_n (pc := 329) (i := 2) (tLw2.at 2 rfl) rfl rfl ?_
  refine r_callV (M' := mX11_errorOffset) (pc := 330) (tLw2.at 3 rfl) ml_L_112 rfl mw_X11_errorOffset ⟨by decide, by decide⟩ hfs rfl rfl hM2 rfl rfl (Nat.le_of_ble_eq_true rfl) (by show cells + 0 + 0 ≤ 601024; omega) (by show slots + 0 + 0 ≤ 7293034; omega) ?_
  rintro _ h2 top2 ⟨rfl, rfl, Z', S', I2⟩
  refine r_icmp_eq (pc := 333) 2157 (tLw2.at 4 rfl) (by decide) (fun _ => ?_) (fun c => absurd rfl c)
  exact r_wide (k := cells + 1) (n := slots + 600) (by omega) (by omega) (hk _ _ _ _ I2)
theorem lw_3 (I : Inv v h top x Z S) (hbz : b < z0 v) (hi : i + 6 ≤ L) (hL : L ≤ 3072) (hc : cells + 1 ≤ 601024) (hs : slots + 600 ≤ 7293034) (hk : lwK v b L xs x i cells slots) : J v mL_law room_1 (lwQ2 b L xs lw_Z) (z0 v) cells slots h top 338 (lwS b x i) [] := by
  obtain ⟨_, E, ⟨y, rfl⟩, hC, hM⟩ := op_size I
  refine r_aload_n (pc := 338) (i := 1) (tLw3.at 0 rfl) rfl rfl ?_
  refine r_callV (M' := mX10_size) (pc := 339) (tLw3.at 1 rfl) ml_L_113 rfl mw_X10_size ⟨by decide, by decide⟩ I.1.1.1 rfl rfl hC rfl rfl (Nat.le_of_ble_eq_true rfl) (by show cells + 0 ≤ 601024; omega) (by show slots + 0 ≤ 7293034; omega) ?_
  rintro _ h1 top1 ⟨rfl, hE⟩
  obtain ⟨⟨fs, hfs⟩, hM2⟩ := hM h1 top1 hE
  refine r_aload_n (pc := 342) (i := 2) (tLw3.at 2 rfl) rfl rfl ?_
  refine r_callV (M' := mX11_size) (pc := 343) (tLw3.at 3 rfl) ml_L_116 rfl mw_X11_size ⟨by decide, by decide⟩ hfs rfl rfl hM2 rfl rfl (Nat.le_of_ble_eq_true rfl) (by show cells + 0 + 0 ≤ 601024; omega) (by show slots + 0 + 0 ≤ 7293034; omega) ?_
  rintro _ h2 top2 ⟨rfl, rfl, Z', S', I2⟩
  refine r_icmp_eq (pc := 346) 2157 (tLw3.at 4 rfl) (by decide) (fun _ => ?_) (fun c => absurd rfl c)
  exact r_wide (k := cells + 1) (n := slots + 600) (by omega) (by omega) (hk _ _ _ _ I2)
theorem lw_4 (I : Inv v h top x Z S) (hbz : b < z0 v) (hi : i + 6 ≤ L) (hL : L ≤ 3072) (hc : cells + 1 ≤ 601024) (hs : slots + 600 ≤ 7293034) (hk : lwK v b L xs x i cells slots) : J v mL_law room_1 (lwQ2 b L xs lw_Z) (z0 v) cells slots h top 351 (lwS b x i) [] := by
  obtain ⟨_, E, ⟨y, rfl⟩, hC, hM⟩ := op_edgeCount I
  refine r_aload_n (pc := 351) (i := 1) (tLw4.at 0 rfl) rfl rfl ?_
  refine r_callV (M' := mX10_edgeCount) (pc := 352) (tLw4.at 1 rfl) ml_L_117 rfl mw_X10_edgeCount ⟨by decide, by decide⟩ I.1.1.1 rfl rfl hC rfl rfl (Nat.le_of_ble_eq_true rfl) (by show cells + 0 ≤ 601024; omega) (by show slots + 0 ≤ 7293034; omega) ?_
  rintro _ h1 top1 ⟨rfl, hE⟩
  obtain ⟨⟨fs, hfs⟩, hM2⟩ := hM h1 top1 hE
  refine r_aload_n (pc := 355) (i := 2) (tLw4.at 2 rfl) rfl rfl ?_
  refine r_callV (M' := mX11_edgeCount) (pc := 356) (tLw4.at 3 rfl) ml_L_120 rfl mw_X11_edgeCount ⟨by decide, by decide⟩ hfs rfl rfl hM2 rfl rfl (Nat.le_of_ble_eq_true rfl) (by show cells + 0 + 0 ≤ 601024; omega) (by show slots + 0 + 0 ≤ 7293034; omega) ?_
  rintro _ h2 top2 ⟨rfl, rfl, Z', S', I2⟩
  refine r_icmp_eq (pc := 359) 2157 (tLw4.at 4 rfl) (by decide) (fun _ => ?_) (fun c => absurd rfl c)
  exact r_wide (k := cells + 1) (n := slots + 600) (by omega) (by omega) (hk _ _ _ _ I2)
theorem lw_5 (I : Inv v h top x Z S) (hbz : b < z0 v) (hi : i + 6 ≤ L) (hL : L ≤ 3072) (hc : cells + 1 ≤ 601024) (hs : slots + 600 ≤ 7293034) (hk : lwK v b L xs x i cells slots) : J v mL_law room_1 (lwQ2 b L xs lw_Z) (z0 v) cells slots h top 364 (lwS b x i) [] := by
  obtain ⟨t, y, d, mc, ms, E, ⟨ht3, hd, hmc, hms⟩, hC, hM⟩ := op_edge I (xs (i + 1)) (xs (i + 2))
  refine r_aload_n (pc := 364) (i := 1) (tLw5.at 0 rfl) rfl rfl ?_
  refine r_aload_n (pc := 365) (i := 0) (tLw5.at 1 rfl) rfl rfl ?_
  refine r_iload (pc := 366) (i := 5) (tLw5.at 2 rfl) rfl ?_
  refine r_iconst (pc := 368) (w := nI 1) (tLw5.at 3 rfl) (by decide) ?_
  first | refine r_iaddN (pc := 369) (tLw5.at 4 rfl) ?_ | refine r_iadd (pc := 369) (tLw5.at 4 rfl) ?_
  refine r_sld (pc := 370) (tLw5.at 5 rfl) hbz rfl (by omega) hL ?_
  refine r_aload_n (pc := 371) (i := 0) (tLw5.at 6 rfl) rfl rfl ?_
  refine r_iload (pc := 372) (i := 5) (tLw5.at 7 rfl) rfl ?_
  refine r_iconst (pc := 374) (w := nI 2) (tLw5.at 8 rfl) (by decide) ?_
  first | refine r_iaddN (pc := 375) (tLw5.at 9 rfl) ?_ | refine r_iadd (pc := 375) (tLw5.at 9 rfl) ?_
  refine r_sld (pc := 376) (tLw5.at 10 rfl) hbz rfl (by omega) hL ?_
  refine r_aload_n (pc := 377) (i := 3) (tLw5.at 11 rfl) rfl rfl ?_
  refine r_callSH (M' := mL_edge) (pc := 378) (tLw5.at 12 rfl) ml_L_121 rfl mw_L_edge ⟨by show d + 1 ≤ 2048; omega, by show 8 + (5 + 11) + 60 * d ≤ 84000; omega⟩ hC rfl rfl (Nat.le_of_ble_eq_true rfl) (by show cells + mc ≤ 601024; omega) (by show slots + ms ≤ 7293034; omega) ?_
  rintro _ h1 top1 ⟨rfl, hE, fo, hfo, hfy⟩
  obtain ⟨⟨fs, hfs⟩, hM2⟩ := hM h1 top1 hE
  refine r_istore (pc := 381) (i := 6) (tLw5.at 13 rfl) (by decide) ?_
  refine r_aload_n (pc := 383) (i := 2) (tLw5.at 14 rfl) rfl rfl ?_
  refine r_aload_n (pc := 384) (i := 0) (tLw5.at 15 rfl) rfl rfl ?_
  refine r_iload (pc := 385) (i := 5) (tLw5.at 16 rfl) rfl ?_
  refine r_iconst (pc := 387) (w := nI 1) (tLw5.at 17 rfl) (by decide) ?_
  first | refine r_iaddN (pc := 388) (tLw5.at 18 rfl) ?_ | refine r_iadd (pc := 388) (tLw5.at 18 rfl) ?_
  refine r_sld (pc := 389) (tLw5.at 19 rfl) hbz rfl (by omega) hL ?_
  refine r_aload_n (pc := 390) (i := 0) (tLw5.at 20 rfl) rfl rfl ?_
  refine r_iload (pc := 391) (i := 5) (tLw5.at 21 rfl) rfl ?_
  refine r_iconst (pc := 393) (w := nI 2) (tLw5.at 22 rfl) (by decide) ?_
  first | refine r_iaddN (pc := 394) (tLw5.at 23 rfl) ?_ | refine r_iadd (pc := 394) (tLw5.at 23 rfl) ?_
  refine r_sld (pc := 395) (tLw5.at 24 rfl) hbz rfl (by omega) hL ?_
  refine r_callV (M' := mX11_edge) (pc := 396) (tLw5.at 25 rfl) ml_L_124 rfl mw_X11_edge ⟨by decide, by decide⟩ hfs rfl rfl hM2 rfl rfl (Nat.le_of_ble_eq_true rfl) (by show cells + mc + 0 ≤ 601024; omega) (by show slots + ms + 0 ≤ 7293034; omega) ?_
  rintro _ h2 top2 ⟨_, rfl, ⟨bb, rfl, hbb⟩, rfl, h110, Z', S', I2, hth⟩
  refine r_istore (pc := 399) (i := 7) (tLw5.at 26 rfl) (by decide) ?_
  refine r_aload_n (pc := 401) (i := 2) (tLw5.at 27 rfl) rfl rfl ?_
  refine r_callV (M' := mX11_thrown) (pc := 402) (tLw5.at 28 rfl) ml_L_105 rfl mw_X11_thrown ⟨by decide, by decide⟩ I2.mo rfl rfl (c_thr I2) rfl rfl (Nat.le_of_ble_eq_true rfl) (by show cells + mc + 0 + 0 ≤ 601024; omega) (by show slots + ms + 0 + 0 ≤ 7293034; omega) ?_
  rintro _ _ _ ⟨rfl, rfl, rfl⟩
  refine r_iload (pc := 405) (i := 6) (tLw5.at 29 rfl) rfl ?_
  refine r_icmp_eq (pc := 407) 412 (tLw5.at 30 rfl) (by decide) (fun _ => ?_) (fun c => absurd (by rw [hth]) c)
  refine r_iload (pc := 412) (i := 6) (tLw5.at 33 rfl) rfl ?_
  refine r_if_ne (pc := 414) 429 (tLw5.at 34 rfl) (by decide) (fun _ => ?_) (fun c => ?_)
  · refine r_goto (pc := 429) 2157 (tLw5.at 44 rfl) (by decide) ?_
    refine r_ls [some (.ref b), some (.ref x), some (.ref (x + 96)), some (.ref (x + 110)), some (.ref (x + 111)), some (.int (nI i)), some (.int (nI t)), some (.int bb), none] rfl (r_drop ?_)
    exact r_wide (k := cells + 1) (n := slots + 600) (by omega) (by omega) (hk _ _ _ _ I2)
  · have t0 : t = 0 := nI_z3 t ht3 c
    rw [← h110] at hfo
    refine r_aload_n (pc := 417) (i := 3) (tLw5.at 35 rfl) rfl rfl ?_
    refine r_iconst (pc := 418) (w := nI 0) (tLw5.at 36 rfl) (by decide) ?_
    refine r_lald (pc := 419) (tLw5.at 37 rfl) hfo 0 rfl (by omega) (Nat.le_of_ble_eq_true rfl) ?_
    rw [hfy t0, ← hbb t0]
    refine r_iload (pc := 420) (i := 7) (tLw5.at 38 rfl) rfl ?_
    refine r_i2l (pc := 422) (tLw5.at 39 rfl) ?_
    refine r_lq (pc := 423) 429 (tLw5.at 40 rfl) (tLw5.at 41 rfl) (by decide) rfl ?_
    refine r_goto (pc := 429) 2157 (tLw5.at 44 rfl) (by decide) ?_
    refine r_ls [some (.ref b), some (.ref x), some (.ref (x + 96)), some (.ref (x + 110)), some (.ref (x + 111)), some (.int (nI i)), some (.int (nI t)), some (.int bb), none] rfl (r_drop ?_)
    exact r_wide (k := cells + 1) (n := slots + 600) (by omega) (by omega) (hk _ _ _ _ I2)
theorem lw_6 (I : Inv v h top x Z S) (hbz : b < z0 v) (hi : i + 6 ≤ L) (hL : L ≤ 3072) (hc : cells + 1 ≤ 601024) (hs : slots + 600 ≤ 7293034) (hk : lwK v b L xs x i cells slots) : J v mL_law room_1 (lwQ2 b L xs lw_Z) (z0 v) cells slots h top 432 (lwS b x i) [] := by
  obtain ⟨t, y, d, mc, ms, E, ⟨ht3, hd, hmc, hms⟩, hC, hM⟩ := op_degree I (xs (i + 1))
  refine r_aload_n (pc := 432) (i := 1) (tLw6.at 0 rfl) rfl rfl ?_
  refine r_aload_n (pc := 433) (i := 0) (tLw6.at 1 rfl) rfl rfl ?_
  refine r_iload (pc := 434) (i := 5) (tLw6.at 2 rfl) rfl ?_
  refine r_iconst (pc := 436) (w := nI 1) (tLw6.at 3 rfl) (by decide) ?_
  first | refine r_iaddN (pc := 437) (tLw6.at 4 rfl) ?_ | refine r_iadd (pc := 437) (tLw6.at 4 rfl) ?_
  refine r_sld (pc := 438) (tLw6.at 5 rfl) hbz rfl (by omega) hL ?_
  refine r_aload_n (pc := 439) (i := 3) (tLw6.at 6 rfl) rfl rfl ?_
  refine r_callSH (M' := mL_degree) (pc := 440) (tLw6.at 7 rfl) ml_L_125 rfl mw_L_degree ⟨by show d + 1 ≤ 2048; omega, by show 8 + (4 + 11) + 60 * d ≤ 84000; omega⟩ hC rfl rfl (Nat.le_of_ble_eq_true rfl) (by show cells + mc ≤ 601024; omega) (by show slots + ms ≤ 7293034; omega) ?_
  rintro _ h1 top1 ⟨rfl, hE, fo, hfo, hfy⟩
  obtain ⟨⟨fs, hfs⟩, hM2⟩ := hM h1 top1 hE
  refine r_istore (pc := 443) (i := 6) (tLw6.at 8 rfl) (by decide) ?_
  refine r_aload_n (pc := 445) (i := 2) (tLw6.at 9 rfl) rfl rfl ?_
  refine r_aload_n (pc := 446) (i := 0) (tLw6.at 10 rfl) rfl rfl ?_
  refine r_iload (pc := 447) (i := 5) (tLw6.at 11 rfl) rfl ?_
  refine r_iconst (pc := 449) (w := nI 1) (tLw6.at 12 rfl) (by decide) ?_
  first | refine r_iaddN (pc := 450) (tLw6.at 13 rfl) ?_ | refine r_iadd (pc := 450) (tLw6.at 13 rfl) ?_
  refine r_sld (pc := 451) (tLw6.at 14 rfl) hbz rfl (by omega) hL ?_
  refine r_callV (M' := mX11_degree) (pc := 452) (tLw6.at 15 rfl) ml_L_127 rfl mw_X11_degree ⟨by decide, by decide⟩ hfs rfl rfl hM2 rfl rfl (Nat.le_of_ble_eq_true rfl) (by show cells + mc + 0 ≤ 601024; omega) (by show slots + ms + 0 ≤ 7293034; omega) ?_
  rintro _ h2 top2 ⟨_, rfl, ⟨bb, rfl, hbb⟩, rfl, h110, Z', S', I2, hth⟩
  refine r_istore (pc := 455) (i := 7) (tLw6.at 16 rfl) (by decide) ?_
  refine r_aload_n (pc := 457) (i := 2) (tLw6.at 17 rfl) rfl rfl ?_
  refine r_callV (M' := mX11_thrown) (pc := 458) (tLw6.at 18 rfl) ml_L_105 rfl mw_X11_thrown ⟨by decide, by decide⟩ I2.mo rfl rfl (c_thr I2) rfl rfl (Nat.le_of_ble_eq_true rfl) (by show cells + mc + 0 + 0 ≤ 601024; omega) (by show slots + ms + 0 + 0 ≤ 7293034; omega) ?_
  rintro _ _ _ ⟨rfl, rfl, rfl⟩
  refine r_iload (pc := 461) (i := 6) (tLw6.at 19 rfl) rfl ?_
  refine r_icmp_eq (pc := 463) 468 (tLw6.at 20 rfl) (by decide) (fun _ => ?_) (fun c => absurd (by rw [hth]) c)
  refine r_iload (pc := 468) (i := 6) (tLw6.at 23 rfl) rfl ?_
  refine r_if_ne (pc := 470) 485 (tLw6.at 24 rfl) (by decide) (fun _ => ?_) (fun c => ?_)
  · refine r_goto (pc := 485) 2157 (tLw6.at 34 rfl) (by decide) ?_
    refine r_ls [some (.ref b), some (.ref x), some (.ref (x + 96)), some (.ref (x + 110)), some (.ref (x + 111)), some (.int (nI i)), some (.int (nI t)), some (.int bb), none] rfl (r_drop ?_)
    exact r_wide (k := cells + 1) (n := slots + 600) (by omega) (by omega) (hk _ _ _ _ I2)
  · have t0 : t = 0 := nI_z3 t ht3 c
    rw [← h110] at hfo
    refine r_aload_n (pc := 473) (i := 3) (tLw6.at 25 rfl) rfl rfl ?_
    refine r_iconst (pc := 474) (w := nI 0) (tLw6.at 26 rfl) (by decide) ?_
    refine r_lald (pc := 475) (tLw6.at 27 rfl) hfo 0 rfl (by omega) (Nat.le_of_ble_eq_true rfl) ?_
    rw [hfy t0, ← hbb t0]
    refine r_iload (pc := 476) (i := 7) (tLw6.at 28 rfl) rfl ?_
    refine r_i2l (pc := 478) (tLw6.at 29 rfl) ?_
    refine r_lq (pc := 479) 485 (tLw6.at 30 rfl) (tLw6.at 31 rfl) (by decide) rfl ?_
    refine r_goto (pc := 485) 2157 (tLw6.at 34 rfl) (by decide) ?_
    refine r_ls [some (.ref b), some (.ref x), some (.ref (x + 96)), some (.ref (x + 110)), some (.ref (x + 111)), some (.int (nI i)), some (.int (nI t)), some (.int bb), none] rfl (r_drop ?_)
    exact r_wide (k := cells + 1) (n := slots + 600) (by omega) (by omega) (hk _ _ _ _ I2)
theorem lw_7 (I : Inv v h top x Z S) (hbz : b < z0 v) (hi : i + 6 ≤ L) (hL : L ≤ 3072) (hc : cells + 1 ≤ 601024) (hs : slots + 600 ≤ 7293034) (hk : lwK v b L xs x i cells slots) : J v mL_law room_1 (lwQ2 b L xs lw_Z) (z0 v) cells slots h top 488 (lwS b x i) [] := by
  obtain ⟨t, y, d, mc, ms, E, ⟨ht3, hd, hmc, hms⟩, hC, hM⟩ := op_reachable I (xs (i + 1))
  refine r_aload_n (pc := 488) (i := 1) (tLw7.at 0 rfl) rfl rfl ?_
  refine r_aload_n (pc := 489) (i := 0) (tLw7.at 1 rfl) rfl rfl ?_
  refine r_iload (pc := 490) (i := 5) (tLw7.at 2 rfl) rfl ?_
  refine r_iconst (pc := 492) (w := nI 1) (tLw7.at 3 rfl) (by decide) ?_
  first | refine r_iaddN (pc := 493) (tLw7.at 4 rfl) ?_ | refine r_iadd (pc := 493) (tLw7.at 4 rfl) ?_
  refine r_sld (pc := 494) (tLw7.at 5 rfl) hbz rfl (by omega) hL ?_
  refine r_aload_n (pc := 495) (i := 3) (tLw7.at 6 rfl) rfl rfl ?_
  refine r_callSH (M' := mL_reachable) (pc := 496) (tLw7.at 7 rfl) ml_L_128 rfl mw_L_reachable ⟨by show d + 1 ≤ 2048; omega, by show 8 + (4 + 11) + 60 * d ≤ 84000; omega⟩ hC rfl rfl (Nat.le_of_ble_eq_true rfl) (by show cells + mc ≤ 601024; omega) (by show slots + ms ≤ 7293034; omega) ?_
  rintro _ h1 top1 ⟨rfl, hE, fo, hfo, hfy⟩
  obtain ⟨⟨fs, hfs⟩, hM2⟩ := hM h1 top1 hE
  refine r_istore (pc := 499) (i := 6) (tLw7.at 8 rfl) (by decide) ?_
  refine r_aload_n (pc := 501) (i := 2) (tLw7.at 9 rfl) rfl rfl ?_
  refine r_aload_n (pc := 502) (i := 0) (tLw7.at 10 rfl) rfl rfl ?_
  refine r_iload (pc := 503) (i := 5) (tLw7.at 11 rfl) rfl ?_
  refine r_iconst (pc := 505) (w := nI 1) (tLw7.at 12 rfl) (by decide) ?_
  first | refine r_iaddN (pc := 506) (tLw7.at 13 rfl) ?_ | refine r_iadd (pc := 506) (tLw7.at 13 rfl) ?_
  refine r_sld (pc := 507) (tLw7.at 14 rfl) hbz rfl (by omega) hL ?_
  refine r_callV (M' := mX11_reachable) (pc := 508) (tLw7.at 15 rfl) ml_L_130 rfl mw_X11_reachable ⟨by decide, by decide⟩ hfs rfl rfl hM2 rfl rfl (Nat.le_of_ble_eq_true rfl) (by show cells + mc + 0 ≤ 601024; omega) (by show slots + ms + 0 ≤ 7293034; omega) ?_
  rintro _ h2 top2 ⟨_, rfl, ⟨bb, rfl, hbb⟩, rfl, h110, Z', S', I2, hth⟩
  refine r_istore (pc := 511) (i := 7) (tLw7.at 16 rfl) (by decide) ?_
  refine r_aload_n (pc := 513) (i := 2) (tLw7.at 17 rfl) rfl rfl ?_
  refine r_callV (M' := mX11_thrown) (pc := 514) (tLw7.at 18 rfl) ml_L_105 rfl mw_X11_thrown ⟨by decide, by decide⟩ I2.mo rfl rfl (c_thr I2) rfl rfl (Nat.le_of_ble_eq_true rfl) (by show cells + mc + 0 + 0 ≤ 601024; omega) (by show slots + ms + 0 + 0 ≤ 7293034; omega) ?_
  rintro _ _ _ ⟨rfl, rfl, rfl⟩
  refine r_iload (pc := 517) (i := 6) (tLw7.at 19 rfl) rfl ?_
  refine r_icmp_eq (pc := 519) 524 (tLw7.at 20 rfl) (by decide) (fun _ => ?_) (fun c => absurd (by rw [hth]) c)
  refine r_iload (pc := 524) (i := 6) (tLw7.at 23 rfl) rfl ?_
  refine r_if_ne (pc := 526) 541 (tLw7.at 24 rfl) (by decide) (fun _ => ?_) (fun c => ?_)
  · refine r_goto (pc := 541) 2157 (tLw7.at 34 rfl) (by decide) ?_
    refine r_ls [some (.ref b), some (.ref x), some (.ref (x + 96)), some (.ref (x + 110)), some (.ref (x + 111)), some (.int (nI i)), some (.int (nI t)), some (.int bb), none] rfl (r_drop ?_)
    exact r_wide (k := cells + 1) (n := slots + 600) (by omega) (by omega) (hk _ _ _ _ I2)
  · have t0 : t = 0 := nI_z3 t ht3 c
    rw [← h110] at hfo
    refine r_aload_n (pc := 529) (i := 3) (tLw7.at 25 rfl) rfl rfl ?_
    refine r_iconst (pc := 530) (w := nI 0) (tLw7.at 26 rfl) (by decide) ?_
    refine r_lald (pc := 531) (tLw7.at 27 rfl) hfo 0 rfl (by omega) (Nat.le_of_ble_eq_true rfl) ?_
    rw [hfy t0, ← hbb t0]
    refine r_iload (pc := 532) (i := 7) (tLw7.at 28 rfl) rfl ?_
    refine r_i2l (pc := 534) (tLw7.at 29 rfl) ?_
    refine r_lq (pc := 535) 541 (tLw7.at 30 rfl) (tLw7.at 31 rfl) (by decide) rfl ?_
    refine r_goto (pc := 541) 2157 (tLw7.at 34 rfl) (by decide) ?_
    refine r_ls [some (.ref b), some (.ref x), some (.ref (x + 96)), some (.ref (x + 110)), some (.ref (x + 111)), some (.int (nI i)), some (.int (nI t)), some (.int bb), none] rfl (r_drop ?_)
    exact r_wide (k := cells + 1) (n := slots + 600) (by omega) (by omega) (hk _ _ _ _ I2)
theorem lw_8 (I : Inv v h top x Z S) (hbz : b < z0 v) (hi : i + 6 ≤ L) (hL : L ≤ 3072) (hc : cells + 1 ≤ 601024) (hs : slots + 600 ≤ 7293034) (hk : lwK v b L xs x i cells slots) : J v mL_law room_1 (lwQ2 b L xs lw_Z) (z0 v) cells slots h top 544 (lwS b x i) [] := by
  obtain ⟨t, y, d, mc, ms, E, ⟨ht3, hd, hmc, hms⟩, hC, hM⟩ := op_transition I (p := if xs (i + 3) = 0 then 0 else 1) (by split <;> omega) (xs (i + 1)) (xs (i + 2))
  refine r_aload_n (pc := 544) (i := 1) (tLw8.at 0 rfl) rfl rfl ?_
  refine r_aload_n (pc := 545) (i := 0) (tLw8.at 1 rfl) rfl rfl ?_
  refine r_iload (pc := 546) (i := 5) (tLw8.at 2 rfl) rfl ?_
  refine r_iconst (pc := 548) (w := nI 1) (tLw8.at 3 rfl) (by decide) ?_
  first | refine r_iaddN (pc := 549) (tLw8.at 4 rfl) ?_ | refine r_iadd (pc := 549) (tLw8.at 4 rfl) ?_
  refine r_sld (pc := 550) (tLw8.at 5 rfl) hbz rfl (by omega) hL ?_
  refine r_aload_n (pc := 551) (i := 0) (tLw8.at 6 rfl) rfl rfl ?_
  refine r_iload (pc := 552) (i := 5) (tLw8.at 7 rfl) rfl ?_
  refine r_iconst (pc := 554) (w := nI 2) (tLw8.at 8 rfl) (by decide) ?_
  first | refine r_iaddN (pc := 555) (tLw8.at 9 rfl) ?_ | refine r_iadd (pc := 555) (tLw8.at 9 rfl) ?_
  refine r_sld (pc := 556) (tLw8.at 10 rfl) hbz rfl (by omega) hL ?_
  refine r_aload_n (pc := 557) (i := 0) (tLw8.at 11 rfl) rfl rfl ?_
  refine r_iload (pc := 558) (i := 5) (tLw8.at 12 rfl) rfl ?_
  refine r_iconst (pc := 560) (w := nI 3) (tLw8.at 13 rfl) (by decide) ?_
  first | refine r_iaddN (pc := 561) (tLw8.at 14 rfl) ?_ | refine r_iadd (pc := 561) (tLw8.at 14 rfl) ?_
  refine r_sld (pc := 562) (tLw8.at 15 rfl) hbz rfl (by omega) hL ?_
  refine r_bool (pc := 563) (tLw8.at 16 rfl) (tLw8.at 17 rfl) (tLw8.at 18 rfl) (tLw8.at 19 rfl) ?_
  refine r_aload_n (pc := 571) (i := 3) (tLw8.at 20 rfl) rfl rfl ?_
  refine r_callSH (M' := mL_transition) (pc := 572) (tLw8.at 21 rfl) ml_L_131 rfl mw_L_transition ⟨by show d + 1 ≤ 2048; omega, by show 8 + (6 + 11) + 60 * d ≤ 84000; omega⟩ hC rfl rfl (Nat.le_of_ble_eq_true rfl) (by show cells + mc ≤ 601024; omega) (by show slots + ms ≤ 7293034; omega) ?_
  rintro _ h1 top1 ⟨rfl, hE, fo, hfo, hfy⟩
  obtain ⟨⟨fs, hfs⟩, hM2⟩ := hM h1 top1 hE
  refine r_istore (pc := 575) (i := 6) (tLw8.at 22 rfl) (by decide) ?_
  refine r_aload_n (pc := 577) (i := 2) (tLw8.at 23 rfl) rfl rfl ?_
  refine r_aload_n (pc := 578) (i := 0) (tLw8.at 24 rfl) rfl rfl ?_
  refine r_iload (pc := 579) (i := 5) (tLw8.at 25 rfl) rfl ?_
  refine r_iconst (pc := 581) (w := nI 1) (tLw8.at 26 rfl) (by decide) ?_
  first | refine r_iaddN (pc := 582) (tLw8.at 27 rfl) ?_ | refine r_iadd (pc := 582) (tLw8.at 27 rfl) ?_
  refine r_sld (pc := 583) (tLw8.at 28 rfl) hbz rfl (by omega) hL ?_
  refine r_aload_n (pc := 584) (i := 0) (tLw8.at 29 rfl) rfl rfl ?_
  refine r_iload (pc := 585) (i := 5) (tLw8.at 30 rfl) rfl ?_
  refine r_iconst (pc := 587) (w := nI 2) (tLw8.at 31 rfl) (by decide) ?_
  first | refine r_iaddN (pc := 588) (tLw8.at 32 rfl) ?_ | refine r_iadd (pc := 588) (tLw8.at 32 rfl) ?_
  refine r_sld (pc := 589) (tLw8.at 33 rfl) hbz rfl (by omega) hL ?_
  refine r_aload_n (pc := 590) (i := 0) (tLw8.at 34 rfl) rfl rfl ?_
  refine r_iload (pc := 591) (i := 5) (tLw8.at 35 rfl) rfl ?_
  refine r_iconst (pc := 593) (w := nI 3) (tLw8.at 36 rfl) (by decide) ?_
  first | refine r_iaddN (pc := 594) (tLw8.at 37 rfl) ?_ | refine r_iadd (pc := 594) (tLw8.at 37 rfl) ?_
  refine r_sld (pc := 595) (tLw8.at 38 rfl) hbz rfl (by omega) hL ?_
  refine r_bool (pc := 596) (tLw8.at 39 rfl) (tLw8.at 40 rfl) (tLw8.at 41 rfl) (tLw8.at 42 rfl) ?_
  refine r_callV (M' := mX11_transition) (pc := 604) (tLw8.at 43 rfl) ml_L_134 rfl mw_X11_transition ⟨by decide, by decide⟩ hfs rfl rfl hM2 rfl rfl (Nat.le_of_ble_eq_true rfl) (by show cells + mc + 0 ≤ 601024; omega) (by show slots + ms + 0 ≤ 7293034; omega) ?_
  rintro _ h2 top2 ⟨_, rfl, ⟨bb, rfl, hbb⟩, rfl, h110, Z', S', I2, hth⟩
  refine r_istore (pc := 607) (i := 7) (tLw8.at 44 rfl) (by decide) ?_
  refine r_aload_n (pc := 609) (i := 2) (tLw8.at 45 rfl) rfl rfl ?_
  refine r_callV (M' := mX11_thrown) (pc := 610) (tLw8.at 46 rfl) ml_L_105 rfl mw_X11_thrown ⟨by decide, by decide⟩ I2.mo rfl rfl (c_thr I2) rfl rfl (Nat.le_of_ble_eq_true rfl) (by show cells + mc + 0 + 0 ≤ 601024; omega) (by show slots + ms + 0 + 0 ≤ 7293034; omega) ?_
  rintro _ _ _ ⟨rfl, rfl, rfl⟩
  refine r_iload (pc := 613) (i := 6) (tLw8.at 47 rfl) rfl ?_
  refine r_icmp_eq (pc := 615) 620 (tLw8.at 48 rfl) (by decide) (fun _ => ?_) (fun c => absurd (by rw [hth]) c)
  refine r_iload (pc := 620) (i := 6) (tLw8.at 51 rfl) rfl ?_
  refine r_if_ne (pc := 622) 637 (tLw8.at 52 rfl) (by decide) (fun _ => ?_) (fun c => ?_)
  · refine r_goto (pc := 637) 2157 (tLw8.at 62 rfl) (by decide) ?_
    refine r_ls [some (.ref b), some (.ref x), some (.ref (x + 96)), some (.ref (x + 110)), some (.ref (x + 111)), some (.int (nI i)), some (.int (nI t)), some (.int bb), none] rfl (r_drop ?_)
    exact r_wide (k := cells + 1) (n := slots + 600) (by omega) (by omega) (hk _ _ _ _ I2)
  · have t0 : t = 0 := nI_z3 t ht3 c
    rw [← h110] at hfo
    refine r_aload_n (pc := 625) (i := 3) (tLw8.at 53 rfl) rfl rfl ?_
    refine r_iconst (pc := 626) (w := nI 0) (tLw8.at 54 rfl) (by decide) ?_
    refine r_lald (pc := 627) (tLw8.at 55 rfl) hfo 0 rfl (by omega) (Nat.le_of_ble_eq_true rfl) ?_
    rw [hfy t0, ← hbb t0]
    refine r_iload (pc := 628) (i := 7) (tLw8.at 56 rfl) rfl ?_
    refine r_i2l (pc := 630) (tLw8.at 57 rfl) ?_
    refine r_lq (pc := 631) 637 (tLw8.at 58 rfl) (tLw8.at 59 rfl) (by decide) rfl ?_
    refine r_goto (pc := 637) 2157 (tLw8.at 62 rfl) (by decide) ?_
    refine r_ls [some (.ref b), some (.ref x), some (.ref (x + 96)), some (.ref (x + 110)), some (.ref (x + 111)), some (.int (nI i)), some (.int (nI t)), some (.int bb), none] rfl (r_drop ?_)
    exact r_wide (k := cells + 1) (n := slots + 600) (by omega) (by omega) (hk _ _ _ _ I2)
end

