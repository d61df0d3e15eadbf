/-! ===== the law: the calls 17 to 24 ===== -/
section
variable {v : Ev} {h : Hp} {top x b L i cells slots : Nat} {xs : Nat → Int32} {Z : CS} {S : MS}
theorem lw_17 (I : Inv v h top x Z S) (hbz : b < z0 v) (hi : i + 6 ≤ L) (hL : L ≤ 3072) (hc : cells + 1 ≤ 601024) (hs : slots + 600 ≤ 7293034) (hk : lwK v b L xs x i cells slots) : J v mL_law room_1 (lwQ2 b L xs lw_Z) (z0 v) cells slots h top 1225 (lwS b x i) [] := by
  obtain ⟨t, y, d, mc, ms, E, ⟨ht3, hd, hmc, hms⟩, hC, hM⟩ := op_blockOf I (xs (i + 1))
  refine r_aload_n (pc := 1225) (i := 1) (tLw17.at 0 rfl) rfl rfl ?_
  refine r_aload_n (pc := 1226) (i := 0) (tLw17.at 1 rfl) rfl rfl ?_
  refine r_iload (pc := 1227) (i := 5) (tLw17.at 2 rfl) rfl ?_
  refine r_iconst (pc := 1229) (w := nI 1) (tLw17.at 3 rfl) (by decide) ?_
  first | refine r_iaddN (pc := 1230) (tLw17.at 4 rfl) ?_ | refine r_iadd (pc := 1230) (tLw17.at 4 rfl) ?_
  refine r_sld (pc := 1231) (tLw17.at 5 rfl) hbz rfl (by omega) hL ?_
  refine r_aload_n (pc := 1232) (i := 3) (tLw17.at 6 rfl) rfl rfl ?_
  refine r_callSH (M' := mL_blockOf) (pc := 1233) (tLw17.at 7 rfl) ml_L_163 rfl mw_L_blockOf ⟨by show d + 1 ≤ 2048; omega, by show 8 + (4 + 11) + 60 * d ≤ 84000; omega⟩ hC rfl rfl (Nat.le_of_ble_eq_true rfl) (by show cells + mc ≤ 601024; omega) (by show slots + ms ≤ 7293034; omega) ?_
  rintro _ h1 top1 ⟨rfl, hE, fo, hfo, hfy⟩
  obtain ⟨⟨fs, hfs⟩, hM2⟩ := hM h1 top1 hE
  refine r_istore (pc := 1236) (i := 6) (tLw17.at 8 rfl) (by decide) ?_
  refine r_aload_n (pc := 1238) (i := 2) (tLw17.at 9 rfl) rfl rfl ?_
  refine r_aload_n (pc := 1239) (i := 0) (tLw17.at 10 rfl) rfl rfl ?_
  refine r_iload (pc := 1240) (i := 5) (tLw17.at 11 rfl) rfl ?_
  refine r_iconst (pc := 1242) (w := nI 1) (tLw17.at 12 rfl) (by decide) ?_
  first | refine r_iaddN (pc := 1243) (tLw17.at 13 rfl) ?_ | refine r_iadd (pc := 1243) (tLw17.at 13 rfl) ?_
  refine r_sld (pc := 1244) (tLw17.at 14 rfl) hbz rfl (by omega) hL ?_
  refine r_callV (M' := mX11_blockOf) (pc := 1245) (tLw17.at 15 rfl) ml_L_165 rfl mw_X11_blockOf ⟨by decide, by decide⟩ hfs rfl rfl hM2 rfl rfl (Nat.le_of_ble_eq_true rfl) (by show cells + mc + 0 ≤ 601024; omega) (by show slots + ms + 0 ≤ 7293034; omega) ?_
  rintro _ h2 top2 ⟨_, rfl, ⟨bb, rfl, hbb⟩, rfl, h110, Z', S', I2, hth⟩
  refine r_istore (pc := 1248) (i := 7) (tLw17.at 16 rfl) (by decide) ?_
  refine r_aload_n (pc := 1250) (i := 2) (tLw17.at 17 rfl) rfl rfl ?_
  refine r_callV (M' := mX11_thrown) (pc := 1251) (tLw17.at 18 rfl) ml_L_105 rfl mw_X11_thrown ⟨by decide, by decide⟩ I2.mo rfl rfl (c_thr I2) rfl rfl (Nat.le_of_ble_eq_true rfl) (by show cells + mc + 0 + 0 ≤ 601024; omega) (by show slots + ms + 0 + 0 ≤ 7293034; omega) ?_
  rintro _ _ _ ⟨rfl, rfl, rfl⟩
  refine r_iload (pc := 1254) (i := 6) (tLw17.at 19 rfl) rfl ?_
  refine r_icmp_eq (pc := 1256) 1261 (tLw17.at 20 rfl) (by decide) (fun _ => ?_) (fun c => absurd (by rw [hth]) c)
  refine r_iload (pc := 1261) (i := 6) (tLw17.at 23 rfl) rfl ?_
  refine r_if_ne (pc := 1263) 1278 (tLw17.at 24 rfl) (by decide) (fun _ => ?_) (fun c => ?_)
  · refine r_goto (pc := 1278) 2157 (tLw17.at 34 rfl) (by decide) ?_
    refine r_ls [some (.ref b), some (.ref x), some (.ref (x + 96)), some (.ref (x + 110)), some (.ref (x + 111)), some (.int (nI i)), some (.int (nI t)), some (.int bb), none] rfl (r_drop ?_)
    exact r_wide (k := cells + 1) (n := slots + 600) (by omega) (by omega) (hk _ _ _ _ I2)
  · have t0 : t = 0 := nI_z3 t ht3 c
    rw [← h110] at hfo
    refine r_aload_n (pc := 1266) (i := 3) (tLw17.at 25 rfl) rfl rfl ?_
    refine r_iconst (pc := 1267) (w := nI 0) (tLw17.at 26 rfl) (by decide) ?_
    refine r_lald (pc := 1268) (tLw17.at 27 rfl) hfo 0 rfl (by omega) (Nat.le_of_ble_eq_true rfl) ?_
    rw [hfy t0, ← hbb t0]
    refine r_iload (pc := 1269) (i := 7) (tLw17.at 28 rfl) rfl ?_
    refine r_i2l (pc := 1271) (tLw17.at 29 rfl) ?_
    refine r_lq (pc := 1272) 1278 (tLw17.at 30 rfl) (tLw17.at 31 rfl) (by decide) rfl ?_
    refine r_goto (pc := 1278) 2157 (tLw17.at 34 rfl) (by decide) ?_
    refine r_ls [some (.ref b), some (.ref x), some (.ref (x + 96)), some (.ref (x + 110)), some (.ref (x + 111)), some (.int (nI i)), some (.int (nI t)), some (.int bb), none] rfl (r_drop ?_)
    exact r_wide (k := cells + 1) (n := slots + 600) (by omega) (by omega) (hk _ _ _ _ I2)
theorem lw_18 (I : Inv v h top x Z S) (hbz : b < z0 v) (hi : i + 6 ≤ L) (hL : L ≤ 3072) (hc : cells + 1 ≤ 601024) (hs : slots + 600 ≤ 7293034) (hk : lwK v b L xs x i cells slots) : J v mL_law room_1 (lwQ2 b L xs lw_Z) (z0 v) cells slots h top 1281 (lwS b x i) [] := by
  obtain ⟨_, E, ⟨y, rfl⟩, hC, hM⟩ := op_blockCount I
  refine r_aload_n (pc := 1281) (i := 1) (tLw18.at 0 rfl) rfl rfl ?_
  refine r_callV (M' := mX10_blockCount) (pc := 1282) (tLw18.at 1 rfl) ml_L_166 rfl mw_X10_blockCount ⟨by decide, by decide⟩ I.1.1.1 rfl rfl hC rfl rfl (Nat.le_of_ble_eq_true rfl) (by show cells + 0 ≤ 601024; omega) (by show slots + 0 ≤ 7293034; omega) ?_
  rintro _ h1 top1 ⟨rfl, hE⟩
  obtain ⟨⟨fs, hfs⟩, hM2⟩ := hM h1 top1 hE
  refine r_aload_n (pc := 1285) (i := 2) (tLw18.at 2 rfl) rfl rfl ?_
  refine r_callV (M' := mX11_blockCount) (pc := 1286) (tLw18.at 3 rfl) ml_L_169 rfl mw_X11_blockCount ⟨by decide, by decide⟩ hfs rfl rfl hM2 rfl rfl (Nat.le_of_ble_eq_true rfl) (by show cells + 0 + 0 ≤ 601024; omega) (by show slots + 0 + 0 ≤ 7293034; omega) ?_
  rintro _ h2 top2 ⟨rfl, rfl, Z', S', I2⟩
  refine r_icmp_eq (pc := 1289) 2157 (tLw18.at 4 rfl) (by decide) (fun _ => ?_) (fun c => absurd rfl c)
  exact r_wide (k := cells + 1) (n := slots + 600) (by omega) (by omega) (hk _ _ _ _ I2)
theorem lw_19 (I : Inv v h top x Z S) (hbz : b < z0 v) (hi : i + 6 ≤ L) (hL : L ≤ 3072) (hc : cells + 1 ≤ 601024) (hs : slots + 600 ≤ 7293034) (hk : lwK v b L xs x i cells slots) : J v mL_law room_1 (lwQ2 b L xs lw_Z) (z0 v) cells slots h top 1294 (lwS b x i) [] := by
  obtain ⟨_, E, ⟨y, rfl⟩, hC, hM⟩ := op_isLumpable I
  refine r_aload_n (pc := 1294) (i := 1) (tLw19.at 0 rfl) rfl rfl ?_
  refine r_callV (M' := mX10_isLumpable) (pc := 1295) (tLw19.at 1 rfl) ml_L_170 rfl mw_X10_isLumpable ⟨by decide, by decide⟩ I.1.1.1 rfl rfl hC rfl rfl (Nat.le_of_ble_eq_true rfl) (by show cells + 0 ≤ 601024; omega) (by show slots + 0 ≤ 7293034; omega) ?_
  rintro _ h1 top1 ⟨rfl, hE⟩
  obtain ⟨⟨fs, hfs⟩, hM2⟩ := hM h1 top1 hE
  refine r_aload_n (pc := 1298) (i := 2) (tLw19.at 2 rfl) rfl rfl ?_
  refine r_callV (M' := mX11_isLumpable) (pc := 1299) (tLw19.at 3 rfl) ml_L_174 rfl mw_X11_isLumpable ⟨by decide, by decide⟩ hfs rfl rfl hM2 rfl rfl (Nat.le_of_ble_eq_true rfl) (by show cells + 0 + 0 ≤ 601024; omega) (by show slots + 0 + 0 ≤ 7293034; omega) ?_
  rintro _ h2 top2 ⟨rfl, rfl, Z', S', I2⟩
  refine r_icmp_eq (pc := 1302) 2157 (tLw19.at 4 rfl) (by decide) (fun _ => ?_) (fun c => absurd rfl c)
  exact r_wide (k := cells + 1) (n := slots + 600) (by omega) (by omega) (hk _ _ _ _ I2)
theorem lw_20 (I : Inv v h top x Z S) (hbz : b < z0 v) (hi : i + 6 ≤ L) (hL : L ≤ 3072) (hc : cells + 1 ≤ 601024) (hs : slots + 600 ≤ 7293034) (hk : lwK v b L xs x i cells slots) : J v mL_law room_1 (lwQ2 b L xs lw_Z) (z0 v) cells slots h top 1307 (lwS b x i) [] := by
  obtain ⟨_, E, ⟨y, rfl⟩, hC, hM⟩ := op_parted I
  refine r_aload_n (pc := 1307) (i := 1) (tLw20.at 0 rfl) rfl rfl ?_
  refine r_callV (M' := mX10_parted) (pc := 1308) (tLw20.at 1 rfl) ml_L_175 rfl mw_X10_parted ⟨by decide, by decide⟩ I.1.1.1 rfl rfl hC rfl rfl (Nat.le_of_ble_eq_true rfl) (by show cells + 0 ≤ 601024; omega) (by show slots + 0 ≤ 7293034; omega) ?_
  rintro _ h1 top1 ⟨rfl, hE⟩
  obtain ⟨⟨fs, hfs⟩, hM2⟩ := hM h1 top1 hE
  refine r_aload_n (pc := 1311) (i := 2) (tLw20.at 2 rfl) rfl rfl ?_
  refine r_callV (M' := mX11_parted) (pc := 1312) (tLw20.at 3 rfl) ml_L_178 rfl mw_X11_parted ⟨by decide, by decide⟩ hfs rfl rfl hM2 rfl rfl (Nat.le_of_ble_eq_true rfl) (by show cells + 0 + 0 ≤ 601024; omega) (by show slots + 0 + 0 ≤ 7293034; omega) ?_
  rintro _ h2 top2 ⟨rfl, rfl, Z', S', I2⟩
  refine r_icmp_eq (pc := 1315) 2157 (tLw20.at 4 rfl) (by decide) (fun _ => ?_) (fun c => absurd rfl c)
  exact r_wide (k := cells + 1) (n := slots + 600) (by omega) (by omega) (hk _ _ _ _ I2)
theorem lw_21 (I : Inv v h top x Z S) (hbz : b < z0 v) (hi : i + 6 ≤ L) (hL : L ≤ 3072) (hc : cells + 1 ≤ 601024) (hs : slots + 600 ≤ 7293034) (hk : lwK v b L xs x i cells slots) : J v mL_law room_1 (lwQ2 b L xs lw_Z) (z0 v) cells slots h top 1320 (lwS b x i) [] := by
  obtain ⟨t, y, d, mc, ms, E, ⟨ht3, hd, hmc, hms⟩, hC, hM⟩ := op_lumped I (p := if xs (i + 3) = 0 then 0 else 1) (by split <;> omega) (xs (i + 1)) (xs (i + 2))
  refine r_aload_n (pc := 1320) (i := 1) (tLw21.at 0 rfl) rfl rfl ?_
  refine r_aload_n (pc := 1321) (i := 0) (tLw21.at 1 rfl) rfl rfl ?_
  refine r_iload (pc := 1322) (i := 5) (tLw21.at 2 rfl) rfl ?_
  refine r_iconst (pc := 1324) (w := nI 1) (tLw21.at 3 rfl) (by decide) ?_
  first | refine r_iaddN (pc := 1325) (tLw21.at 4 rfl) ?_ | refine r_iadd (pc := 1325) (tLw21.at 4 rfl) ?_
  refine r_sld (pc := 1326) (tLw21.at 5 rfl) hbz rfl (by omega) hL ?_
  refine r_aload_n (pc := 1327) (i := 0) (tLw21.at 6 rfl) rfl rfl ?_
  refine r_iload (pc := 1328) (i := 5) (tLw21.at 7 rfl) rfl ?_
  refine r_iconst (pc := 1330) (w := nI 2) (tLw21.at 8 rfl) (by decide) ?_
  first | refine r_iaddN (pc := 1331) (tLw21.at 9 rfl) ?_ | refine r_iadd (pc := 1331) (tLw21.at 9 rfl) ?_
  refine r_sld (pc := 1332) (tLw21.at 10 rfl) hbz rfl (by omega) hL ?_
  refine r_aload_n (pc := 1333) (i := 0) (tLw21.at 11 rfl) rfl rfl ?_
  refine r_iload (pc := 1334) (i := 5) (tLw21.at 12 rfl) rfl ?_
  refine r_iconst (pc := 1336) (w := nI 3) (tLw21.at 13 rfl) (by decide) ?_
  first | refine r_iaddN (pc := 1337) (tLw21.at 14 rfl) ?_ | refine r_iadd (pc := 1337) (tLw21.at 14 rfl) ?_
  refine r_sld (pc := 1338) (tLw21.at 15 rfl) hbz rfl (by omega) hL ?_
  refine r_bool (pc := 1339) (tLw21.at 16 rfl) (tLw21.at 17 rfl) (tLw21.at 18 rfl) (tLw21.at 19 rfl) ?_
  refine r_aload_n (pc := 1347) (i := 3) (tLw21.at 20 rfl) rfl rfl ?_
  refine r_callSH (M' := mL_lumped) (pc := 1348) (tLw21.at 21 rfl) ml_L_179 rfl mw_L_lumped ⟨by show d + 1 ≤ 2048; omega, by show 8 + (6 + 11) + 60 * d ≤ 84000; omega⟩ hC rfl rfl (Nat.le_of_ble_eq_true rfl) (by show cells + mc ≤ 601024; omega) (by show slots + ms ≤ 7293034; omega) ?_
  rintro _ h1 top1 ⟨rfl, hE, fo, hfo, hfy⟩
  obtain ⟨⟨fs, hfs⟩, hM2⟩ := hM h1 top1 hE
  refine r_istore (pc := 1351) (i := 6) (tLw21.at 22 rfl) (by decide) ?_
  refine r_aload_n (pc := 1353) (i := 2) (tLw21.at 23 rfl) rfl rfl ?_
  refine r_aload_n (pc := 1354) (i := 0) (tLw21.at 24 rfl) rfl rfl ?_
  refine r_iload (pc := 1355) (i := 5) (tLw21.at 25 rfl) rfl ?_
  refine r_iconst (pc := 1357) (w := nI 1) (tLw21.at 26 rfl) (by decide) ?_
  first | refine r_iaddN (pc := 1358) (tLw21.at 27 rfl) ?_ | refine r_iadd (pc := 1358) (tLw21.at 27 rfl) ?_
  refine r_sld (pc := 1359) (tLw21.at 28 rfl) hbz rfl (by omega) hL ?_
  refine r_aload_n (pc := 1360) (i := 0) (tLw21.at 29 rfl) rfl rfl ?_
  refine r_iload (pc := 1361) (i := 5) (tLw21.at 30 rfl) rfl ?_
  refine r_iconst (pc := 1363) (w := nI 2) (tLw21.at 31 rfl) (by decide) ?_
  first | refine r_iaddN (pc := 1364) (tLw21.at 32 rfl) ?_ | refine r_iadd (pc := 1364) (tLw21.at 32 rfl) ?_
  refine r_sld (pc := 1365) (tLw21.at 33 rfl) hbz rfl (by omega) hL ?_
  refine r_aload_n (pc := 1366) (i := 0) (tLw21.at 34 rfl) rfl rfl ?_
  refine r_iload (pc := 1367) (i := 5) (tLw21.at 35 rfl) rfl ?_
  refine r_iconst (pc := 1369) (w := nI 3) (tLw21.at 36 rfl) (by decide) ?_
  first | refine r_iaddN (pc := 1370) (tLw21.at 37 rfl) ?_ | refine r_iadd (pc := 1370) (tLw21.at 37 rfl) ?_
  refine r_sld (pc := 1371) (tLw21.at 38 rfl) hbz rfl (by omega) hL ?_
  refine r_bool (pc := 1372) (tLw21.at 39 rfl) (tLw21.at 40 rfl) (tLw21.at 41 rfl) (tLw21.at 42 rfl) ?_
  refine r_callV (M' := mX11_lumped) (pc := 1380) (tLw21.at 43 rfl) ml_L_181 rfl mw_X11_lumped ⟨by decide, by decide⟩ hfs rfl rfl hM2 rfl rfl (Nat.le_of_ble_eq_true rfl) (by show cells + mc + 0 ≤ 601024; omega) (by show slots + ms + 0 ≤ 7293034; omega) ?_
  rintro _ h2 top2 ⟨_, rfl, ⟨bb, rfl, hbb⟩, rfl, h110, Z', S', I2, hth⟩
  refine r_istore (pc := 1383) (i := 7) (tLw21.at 44 rfl) (by decide) ?_
  refine r_aload_n (pc := 1385) (i := 2) (tLw21.at 45 rfl) rfl rfl ?_
  refine r_callV (M' := mX11_thrown) (pc := 1386) (tLw21.at 46 rfl) ml_L_105 rfl mw_X11_thrown ⟨by decide, by decide⟩ I2.mo rfl rfl (c_thr I2) rfl rfl (Nat.le_of_ble_eq_true rfl) (by show cells + mc + 0 + 0 ≤ 601024; omega) (by show slots + ms + 0 + 0 ≤ 7293034; omega) ?_
  rintro _ _ _ ⟨rfl, rfl, rfl⟩
  refine r_iload (pc := 1389) (i := 6) (tLw21.at 47 rfl) rfl ?_
  refine r_icmp_eq (pc := 1391) 1396 (tLw21.at 48 rfl) (by decide) (fun _ => ?_) (fun c => absurd (by rw [hth]) c)
  refine r_iload (pc := 1396) (i := 6) (tLw21.at 51 rfl) rfl ?_
  refine r_if_ne (pc := 1398) 1413 (tLw21.at 52 rfl) (by decide) (fun _ => ?_) (fun c => ?_)
  · refine r_goto (pc := 1413) 2157 (tLw21.at 62 rfl) (by decide) ?_
    refine r_ls [some (.ref b), some (.ref x), some (.ref (x + 96)), some (.ref (x + 110)), some (.ref (x + 111)), some (.int (nI i)), some (.int (nI t)), some (.int bb), none] rfl (r_drop ?_)
    exact r_wide (k := cells + 1) (n := slots + 600) (by omega) (by omega) (hk _ _ _ _ I2)
  · have t0 : t = 0 := nI_z3 t ht3 c
    rw [← h110] at hfo
    refine r_aload_n (pc := 1401) (i := 3) (tLw21.at 53 rfl) rfl rfl ?_
    refine r_iconst (pc := 1402) (w := nI 0) (tLw21.at 54 rfl) (by decide) ?_
    refine r_lald (pc := 1403) (tLw21.at 55 rfl) hfo 0 rfl (by omega) (Nat.le_of_ble_eq_true rfl) ?_
    rw [hfy t0, ← hbb t0]
    refine r_iload (pc := 1404) (i := 7) (tLw21.at 56 rfl) rfl ?_
    refine r_i2l (pc := 1406) (tLw21.at 57 rfl) ?_
    refine r_lq (pc := 1407) 1413 (tLw21.at 58 rfl) (tLw21.at 59 rfl) (by decide) rfl ?_
    refine r_goto (pc := 1413) 2157 (tLw21.at 62 rfl) (by decide) ?_
    refine r_ls [some (.ref b), some (.ref x), some (.ref (x + 96)), some (.ref (x + 110)), some (.ref (x + 111)), some (.int (nI i)), some (.int (nI t)), some (.int bb), none] rfl (r_drop ?_)
    exact r_wide (k := cells + 1) (n := slots + 600) (by omega) (by omega) (hk _ _ _ _ I2)
theorem lw_22 (I : Inv v h top x Z S) (hbz : b < z0 v) (hi : i + 6 ≤ L) (hL : L ≤ 3072) (hc : cells + 1 ≤ 601024) (hs : slots + 600 ≤ 7293034) (hk : lwK v b L xs x i cells slots) : J v mL_law room_1 (lwQ2 b L xs lw_Z) (z0 v) cells slots h top 1416 (lwS b x i) [] := by
  obtain ⟨t, y, d, mc, ms, E, ⟨ht3, hd, hmc, hms⟩, hC, hM⟩ := op_lumpedTime I (p := if xs (i + 3) = 0 then 0 else 1) (by split <;> omega) (xs (i + 1)) (xs (i + 2))
  refine r_aload_n (pc := 1416) (i := 1) (tLw22.at 0 rfl) rfl rfl ?_
  refine r_aload_n (pc := 1417) (i := 0) (tLw22.at 1 rfl) rfl rfl ?_
  refine r_iload (pc := 1418) (i := 5) (tLw22.at 2 rfl) rfl ?_
  refine r_iconst (pc := 1420) (w := nI 1) (tLw22.at 3 rfl) (by decide) ?_
  first | refine r_iaddN (pc := 1421) (tLw22.at 4 rfl) ?_ | refine r_iadd (pc := 1421) (tLw22.at 4 rfl) ?_
  refine r_sld (pc := 1422) (tLw22.at 5 rfl) hbz rfl (by omega) hL ?_
  refine r_aload_n (pc := 1423) (i := 0) (tLw22.at 6 rfl) rfl rfl ?_
  refine r_iload (pc := 1424) (i := 5) (tLw22.at 7 rfl) rfl ?_
  refine r_iconst (pc := 1426) (w := nI 2) (tLw22.at 8 rfl) (by decide) ?_
  first | refine r_iaddN (pc := 1427) (tLw22.at 9 rfl) ?_ | refine r_iadd (pc := 1427) (tLw22.at 9 rfl) ?_
  refine r_sld (pc := 1428) (tLw22.at 10 rfl) hbz rfl (by omega) hL ?_
  refine r_aload_n (pc := 1429) (i := 0) (tLw22.at 11 rfl) rfl rfl ?_
  refine r_iload (pc := 1430) (i := 5) (tLw22.at 12 rfl) rfl ?_
  refine r_iconst (pc := 1432) (w := nI 3) (tLw22.at 13 rfl) (by decide) ?_
  first | refine r_iaddN (pc := 1433) (tLw22.at 14 rfl) ?_ | refine r_iadd (pc := 1433) (tLw22.at 14 rfl) ?_
  refine r_sld (pc := 1434) (tLw22.at 15 rfl) hbz rfl (by omega) hL ?_
  refine r_bool (pc := 1435) (tLw22.at 16 rfl) (tLw22.at 17 rfl) (tLw22.at 18 rfl) (tLw22.at 19 rfl) ?_
  refine r_aload_n (pc := 1443) (i := 3) (tLw22.at 20 rfl) rfl rfl ?_
  refine r_callSH (M' := mL_lumpedTime) (pc := 1444) (tLw22.at 21 rfl) ml_L_182 rfl mw_L_lumpedTime ⟨by show d + 1 ≤ 2048; omega, by show 8 + (6 + 11) + 60 * d ≤ 84000; omega⟩ hC rfl rfl (Nat.le_of_ble_eq_true rfl) (by show cells + mc ≤ 601024; omega) (by show slots + ms ≤ 7293034; omega) ?_
  rintro _ h1 top1 ⟨rfl, hE, fo, hfo, hfy⟩
  obtain ⟨⟨fs, hfs⟩, hM2⟩ := hM h1 top1 hE
  refine r_istore (pc := 1447) (i := 6) (tLw22.at 22 rfl) (by decide) ?_
  refine r_aload_n (pc := 1449) (i := 2) (tLw22.at 23 rfl) rfl rfl ?_
  refine r_aload_n (pc := 1450) (i := 0) (tLw22.at 24 rfl) rfl rfl ?_
  refine r_iload (pc := 1451) (i := 5) (tLw22.at 25 rfl) rfl ?_
  refine r_iconst (pc := 1453) (w := nI 1) (tLw22.at 26 rfl) (by decide) ?_
  first | refine r_iaddN (pc := 1454) (tLw22.at 27 rfl) ?_ | refine r_iadd (pc := 1454) (tLw22.at 27 rfl) ?_
  refine r_sld (pc := 1455) (tLw22.at 28 rfl) hbz rfl (by omega) hL ?_
  refine r_aload_n (pc := 1456) (i := 0) (tLw22.at 29 rfl) rfl rfl ?_
  refine r_iload (pc := 1457) (i := 5) (tLw22.at 30 rfl) rfl ?_
  refine r_iconst (pc := 1459) (w := nI 2) (tLw22.at 31 rfl) (by decide) ?_
  first | refine r_iaddN (pc := 1460) (tLw22.at 32 rfl) ?_ | refine r_iadd (pc := 1460) (tLw22.at 32 rfl) ?_
  refine r_sld (pc := 1461) (tLw22.at 33 rfl) hbz rfl (by omega) hL ?_
  refine r_aload_n (pc := 1462) (i := 0) (tLw22.at 34 rfl) rfl rfl ?_
  refine r_iload (pc := 1463) (i := 5) (tLw22.at 35 rfl) rfl ?_
  refine r_iconst (pc := 1465) (w := nI 3) (tLw22.at 36 rfl) (by decide) ?_
  first | refine r_iaddN (pc := 1466) (tLw22.at 37 rfl) ?_ | refine r_iadd (pc := 1466) (tLw22.at 37 rfl) ?_
  refine r_sld (pc := 1467) (tLw22.at 38 rfl) hbz rfl (by omega) hL ?_
  refine r_bool (pc := 1468) (tLw22.at 39 rfl) (tLw22.at 40 rfl) (tLw22.at 41 rfl) (tLw22.at 42 rfl) ?_
  refine r_callV (M' := mX11_lumpedTime) (pc := 1476) (tLw22.at 43 rfl) ml_L_184 rfl mw_X11_lumpedTime ⟨by decide, by decide⟩ hfs rfl rfl hM2 rfl rfl (Nat.le_of_ble_eq_true rfl) (by show cells + mc + 0 ≤ 601024; omega) (by show slots + ms + 0 ≤ 7293034; omega) ?_
  rintro _ h2 top2 ⟨_, rfl, ⟨bb, rfl, hbb⟩, rfl, h110, Z', S', I2, hth⟩
  refine r_lstore (pc := 1479) (i := 7) (tLw22.at 44 rfl) (by decide) ?_
  refine r_aload_n (pc := 1481) (i := 2) (tLw22.at 45 rfl) rfl rfl ?_
  refine r_callV (M' := mX11_thrown) (pc := 1482) (tLw22.at 46 rfl) ml_L_105 rfl mw_X11_thrown ⟨by decide, by decide⟩ I2.mo rfl rfl (c_thr I2) rfl rfl (Nat.le_of_ble_eq_true rfl) (by show cells + mc + 0 + 0 ≤ 601024; omega) (by show slots + ms + 0 + 0 ≤ 7293034; omega) ?_
  rintro _ _ _ ⟨rfl, rfl, rfl⟩
  refine r_iload (pc := 1485) (i := 6) (tLw22.at 47 rfl) rfl ?_
  refine r_icmp_eq (pc := 1487) 1492 (tLw22.at 48 rfl) (by decide) (fun _ => ?_) (fun c => absurd (by rw [hth]) c)
  refine r_iload (pc := 1492) (i := 6) (tLw22.at 51 rfl) rfl ?_
  refine r_if_ne (pc := 1494) 1508 (tLw22.at 52 rfl) (by decide) (fun _ => ?_) (fun c => ?_)
  · refine r_goto (pc := 1508) 2157 (tLw22.at 61 rfl) (by decide) ?_
    refine r_ls [some (.ref b), some (.ref x), some (.ref (x + 96)), some (.ref (x + 110)), some (.ref (x + 111)), some (.int (nI i)), some (.int (nI t)), some (.long bb), none] rfl (r_drop ?_)
    exact r_wide (k := cells + 1) (n := slots + 600) (by omega) (by omega) (hk _ _ _ _ I2)
  · have t0 : t = 0 := nI_z3 t ht3 c
    rw [← h110] at hfo
    refine r_aload_n (pc := 1497) (i := 3) (tLw22.at 53 rfl) rfl rfl ?_
    refine r_iconst (pc := 1498) (w := nI 0) (tLw22.at 54 rfl) (by decide) ?_
    refine r_lald (pc := 1499) (tLw22.at 55 rfl) hfo 0 rfl (by omega) (Nat.le_of_ble_eq_true rfl) ?_
    rw [hfy t0, ← hbb t0]
    refine r_lload (pc := 1500) (i := 7) (tLw22.at 56 rfl) rfl ?_
    refine r_lq (pc := 1502) 1508 (tLw22.at 57 rfl) (tLw22.at 58 rfl) (by decide) rfl ?_
    refine r_goto (pc := 1508) 2157 (tLw22.at 61 rfl) (by decide) ?_
    refine r_ls [some (.ref b), some (.ref x), some (.ref (x + 96)), some (.ref (x + 110)), some (.ref (x + 111)), some (.int (nI i)), some (.int (nI t)), some (.long bb), none] rfl (r_drop ?_)
    exact r_wide (k := cells + 1) (n := slots + 600) (by omega) (by omega) (hk _ _ _ _ I2)
theorem lw_23 (I : Inv v h top x Z S) (hbz : b < z0 v) (hi : i + 6 ≤ L) (hL : L ≤ 3072) (hc : cells + 1 ≤ 601024) (hs : slots + 600 ≤ 7293034) (hk : lwK v b L xs x i cells slots) : J v mL_law room_1 (lwQ2 b L xs lw_Z) (z0 v) cells slots h top 1511 (lwS b x i) [] := by
  obtain ⟨t, y, d, mc, ms, E, ⟨ht3, hd, hmc, hms⟩, hP, hC, hM⟩ := op_after I (xs (i + 1)) (xs (i + 2)) (xs (i + 3))
  refine r_aload_n (pc := 1511) (i := 1) (tLw23.at 0 rfl) rfl rfl ?_
  refine r_aload_n (pc := 1512) (i := 0) (tLw23.at 1 rfl) rfl rfl ?_
  refine r_iload (pc := 1513) (i := 5) (tLw23.at 2 rfl) rfl ?_
  refine r_iconst (pc := 1515) (w := nI 1) (tLw23.at 3 rfl) (by decide) ?_
  first | refine r_iaddN (pc := 1516) (tLw23.at 4 rfl) ?_ | refine r_iadd (pc := 1516) (tLw23.at 4 rfl) ?_
  refine r_sld (pc := 1517) (tLw23.at 5 rfl) hbz rfl (by omega) hL ?_
  refine r_aload_n (pc := 1518) (i := 0) (tLw23.at 6 rfl) rfl rfl ?_
  refine r_iload (pc := 1519) (i := 5) (tLw23.at 7 rfl) rfl ?_
  refine r_iconst (pc := 1521) (w := nI 2) (tLw23.at 8 rfl) (by decide) ?_
  first | refine r_iaddN (pc := 1522) (tLw23.at 9 rfl) ?_ | refine r_iadd (pc := 1522) (tLw23.at 9 rfl) ?_
  refine r_sld (pc := 1523) (tLw23.at 10 rfl) hbz rfl (by omega) hL ?_
  refine r_aload_n (pc := 1524) (i := 0) (tLw23.at 11 rfl) rfl rfl ?_
  refine r_iload (pc := 1525) (i := 5) (tLw23.at 12 rfl) rfl ?_
  refine r_iconst (pc := 1527) (w := nI 3) (tLw23.at 13 rfl) (by decide) ?_
  first | refine r_iaddN (pc := 1528) (tLw23.at 14 rfl) ?_ | refine r_iadd (pc := 1528) (tLw23.at 14 rfl) ?_
  refine r_sld (pc := 1529) (tLw23.at 15 rfl) hbz rfl (by omega) hL ?_
  refine r_aload (pc := 1530) (i := 4) (tLw23.at 16 rfl) rfl ?_
  refine r_callSH (M' := mL_after) (pc := 1532) (tLw23.at 17 rfl) ml_L_185 rfl mw_L_after ⟨by show d + 1 ≤ 2048; omega, by show 8 + (6 + 11) + 60 * d ≤ 84000; omega⟩ hC rfl rfl (Nat.le_of_ble_eq_true rfl) (by show cells + mc ≤ 601024; omega) (by show slots + ms ≤ 7293034; omega) ?_
  rintro _ h1 top1 ⟨rfl, hE, fo, hfo, hfy⟩
  obtain ⟨⟨fs, hfs⟩, hM2⟩ := hM h1 top1 hE
  refine r_istore (pc := 1535) (i := 6) (tLw23.at 18 rfl) (by decide) ?_
  refine r_aload_n (pc := 1537) (i := 2) (tLw23.at 19 rfl) rfl rfl ?_
  refine r_aload_n (pc := 1538) (i := 0) (tLw23.at 20 rfl) rfl rfl ?_
  refine r_iload (pc := 1539) (i := 5) (tLw23.at 21 rfl) rfl ?_
  refine r_iconst (pc := 1541) (w := nI 1) (tLw23.at 22 rfl) (by decide) ?_
  first | refine r_iaddN (pc := 1542) (tLw23.at 23 rfl) ?_ | refine r_iadd (pc := 1542) (tLw23.at 23 rfl) ?_
  refine r_sld (pc := 1543) (tLw23.at 24 rfl) hbz rfl (by omega) hL ?_
  refine r_aload_n (pc := 1544) (i := 0) (tLw23.at 25 rfl) rfl rfl ?_
  refine r_iload (pc := 1545) (i := 5) (tLw23.at 26 rfl) rfl ?_
  refine r_iconst (pc := 1547) (w := nI 2) (tLw23.at 27 rfl) (by decide) ?_
  first | refine r_iaddN (pc := 1548) (tLw23.at 28 rfl) ?_ | refine r_iadd (pc := 1548) (tLw23.at 28 rfl) ?_
  refine r_sld (pc := 1549) (tLw23.at 29 rfl) hbz rfl (by omega) hL ?_
  refine r_aload_n (pc := 1550) (i := 0) (tLw23.at 30 rfl) rfl rfl ?_
  refine r_iload (pc := 1551) (i := 5) (tLw23.at 31 rfl) rfl ?_
  refine r_iconst (pc := 1553) (w := nI 3) (tLw23.at 32 rfl) (by decide) ?_
  first | refine r_iaddN (pc := 1554) (tLw23.at 33 rfl) ?_ | refine r_iadd (pc := 1554) (tLw23.at 33 rfl) ?_
  refine r_sld (pc := 1555) (tLw23.at 34 rfl) hbz rfl (by omega) hL ?_
  refine r_callV (M' := mX11_after) (pc := 1556) (tLw23.at 35 rfl) ml_L_188 rfl mw_X11_after ⟨by decide, by decide⟩ hfs rfl rfl hM2 rfl rfl (Nat.le_of_ble_eq_true rfl) (by show cells + mc + 0 ≤ 601024; omega) (by show slots + ms + 0 ≤ 7293034; omega) ?_
  rintro _ h2 top2 ⟨w, rfl, hw, hPw, rfl, h110, Z', S', I2, hth⟩
  refine r_fstore (pc := 1559) (i := 7) (tLw23.at 36 rfl) (by decide) ?_
  refine r_aload_n (pc := 1561) (i := 2) (tLw23.at 37 rfl) rfl rfl ?_
  refine r_callV (M' := mX11_thrown) (pc := 1562) (tLw23.at 38 rfl) ml_L_105 rfl mw_X11_thrown ⟨by decide, by decide⟩ I2.mo rfl rfl (c_thr I2) rfl rfl (Nat.le_of_ble_eq_true rfl) (by show cells + mc + 0 + 0 ≤ 601024; omega) (by show slots + ms + 0 + 0 ≤ 7293034; omega) ?_
  rintro _ _ _ ⟨rfl, rfl, rfl⟩
  refine r_iload (pc := 1565) (i := 6) (tLw23.at 39 rfl) rfl ?_
  refine r_icmp_eq (pc := 1567) 1572 (tLw23.at 40 rfl) (by decide) (fun _ => ?_) (fun c => absurd (by rw [hth]) c)
  refine r_iload (pc := 1572) (i := 6) (tLw23.at 43 rfl) rfl ?_
  refine r_if_ne (pc := 1574) 1610 (tLw23.at 44 rfl) (by decide) (fun _ => ?_) (fun c => ?_)
  · refine r_goto (pc := 1610) 2157 (tLw23.at 66 rfl) (by decide) ?_
    refine r_ls [some (.ref b), some (.ref x), some (.ref (x + 96)), some (.ref (x + 110)), some (.ref (x + 111)), some (.int (nI i)), some (.int (nI t)), some (.float w), none] rfl (r_drop ?_)
    exact r_wide (k := cells + 1) (n := slots + 600) (by omega) (by omega) (hk _ _ _ _ I2)
  · have t0 : t = 0 := nI_z3 t ht3 c
    rw [← h110] at hfo
    refine r_aload (pc := 1577) (i := 4) (tLw23.at 45 rfl) rfl ?_
    refine r_iconst (pc := 1579) (w := nI 0) (tLw23.at 46 rfl) (by decide) ?_
    refine r_dald (pc := 1580) (tLw23.at 47 rfl) hfo 0 rfl (by omega) (Nat.le_of_ble_eq_true rfl) ?_
    rw [hfy t0, hw t0]
    refine r_fload (pc := 1581) (i := 7) (tLw23.at 48 rfl) rfl ?_
    refine r_f2d (pc := 1583) (tLw23.at 49 rfl) (P32_d64 hP) ?_
    refine r_dcmp (pc := 1584) (tLw23.at 50 rfl) ?_
    refine r_if_eq (pc := 1585) 1610 (tLw23.at 51 rfl) (by decide) (fun _ => ?_) (fun c => absurd (by rw [P32_cmp hP]; rfl) c)
    refine r_goto (pc := 1610) 2157 (tLw23.at 66 rfl) (by decide) ?_
    refine r_ls [some (.ref b), some (.ref x), some (.ref (x + 96)), some (.ref (x + 110)), some (.ref (x + 111)), some (.int (nI i)), some (.int (nI t)), some (.float y), none] rfl (r_drop ?_)
    exact r_wide (k := cells + 1) (n := slots + 600) (by omega) (by omega) (hk _ _ _ _ I2)
theorem lw_24 (I : Inv v h top x Z S) (hbz : b < z0 v) (hi : i + 6 ≤ L) (hL : L ≤ 3072) (hc : cells + 1 ≤ 601024) (hs : slots + 600 ≤ 7293034) (hk : lwK v b L xs x i cells slots) : J v mL_law room_1 (lwQ2 b L xs lw_Z) (z0 v) cells slots h top 1613 (lwS b x i) [] := by
  obtain ⟨t, y, d, mc, ms, E, ⟨ht3, hd, hmc, hms⟩, hC, hM⟩ := op_walk I (xs (i + 1)) (xs (i + 2)) (xs (i + 3)) (xs (i + 4))
  refine r_aload_n (pc := 1613) (i := 1) (tLw24.at 0 rfl) rfl rfl ?_
  refine r_aload_n (pc := 1614) (i := 0) (tLw24.at 1 rfl) rfl rfl ?_
  refine r_iload (pc := 1615) (i := 5) (tLw24.at 2 rfl) rfl ?_
  refine r_iconst (pc := 1617) (w := nI 1) (tLw24.at 3 rfl) (by decide) ?_
  first | refine r_iaddN (pc := 1618) (tLw24.at 4 rfl) ?_ | refine r_iadd (pc := 1618) (tLw24.at 4 rfl) ?_
  refine r_sld (pc := 1619) (tLw24.at 5 rfl) hbz rfl (by omega) hL ?_
  refine r_aload_n (pc := 1620) (i := 0) (tLw24.at 6 rfl) rfl rfl ?_
  refine r_iload (pc := 1621) (i := 5) (tLw24.at 7 rfl) rfl ?_
  refine r_iconst (pc := 1623) (w := nI 2) (tLw24.at 8 rfl) (by decide) ?_
  first | refine r_iaddN (pc := 1624) (tLw24.at 9 rfl) ?_ | refine r_iadd (pc := 1624) (tLw24.at 9 rfl) ?_
  refine r_sld (pc := 1625) (tLw24.at 10 rfl) hbz rfl (by omega) hL ?_
  refine r_aload_n (pc := 1626) (i := 0) (tLw24.at 11 rfl) rfl rfl ?_
  refine r_iload (pc := 1627) (i := 5) (tLw24.at 12 rfl) rfl ?_
  refine r_iconst (pc := 1629) (w := nI 3) (tLw24.at 13 rfl) (by decide) ?_
  first | refine r_iaddN (pc := 1630) (tLw24.at 14 rfl) ?_ | refine r_iadd (pc := 1630) (tLw24.at 14 rfl) ?_
  refine r_sld (pc := 1631) (tLw24.at 15 rfl) hbz rfl (by omega) hL ?_
  refine r_aload_n (pc := 1632) (i := 0) (tLw24.at 16 rfl) rfl rfl ?_
  refine r_iload (pc := 1633) (i := 5) (tLw24.at 17 rfl) rfl ?_
  refine r_iconst (pc := 1635) (w := nI 4) (tLw24.at 18 rfl) (by decide) ?_
  first | refine r_iaddN (pc := 1636) (tLw24.at 19 rfl) ?_ | refine r_iadd (pc := 1636) (tLw24.at 19 rfl) ?_
  refine r_sld (pc := 1637) (tLw24.at 20 rfl) hbz rfl (by omega) hL ?_
  refine r_aload_n (pc := 1638) (i := 3) (tLw24.at 21 rfl) rfl rfl ?_
  refine r_callSH (M' := mL_walk) (pc := 1639) (tLw24.at 22 rfl) ml_L_189 rfl mw_L_walk ⟨by show d + 1 ≤ 2048; omega, by show 8 + (7 + 11) + 60 * d ≤ 84000; omega⟩ hC rfl rfl (Nat.le_of_ble_eq_true rfl) (by show cells + mc ≤ 601024; omega) (by show slots + ms ≤ 7293034; omega) ?_
  rintro _ h1 top1 ⟨rfl, hE, fo, hfo, hfy⟩
  obtain ⟨⟨fs, hfs⟩, hM2⟩ := hM h1 top1 hE
  refine r_istore (pc := 1642) (i := 6) (tLw24.at 23 rfl) (by decide) ?_
  refine r_aload_n (pc := 1644) (i := 2) (tLw24.at 24 rfl) rfl rfl ?_
  refine r_aload_n (pc := 1645) (i := 0) (tLw24.at 25 rfl) rfl rfl ?_
  refine r_iload (pc := 1646) (i := 5) (tLw24.at 26 rfl) rfl ?_
  refine r_iconst (pc := 1648) (w := nI 1) (tLw24.at 27 rfl) (by decide) ?_
  first | refine r_iaddN (pc := 1649) (tLw24.at 28 rfl) ?_ | refine r_iadd (pc := 1649) (tLw24.at 28 rfl) ?_
  refine r_sld (pc := 1650) (tLw24.at 29 rfl) hbz rfl (by omega) hL ?_
  refine r_aload_n (pc := 1651) (i := 0) (tLw24.at 30 rfl) rfl rfl ?_
  refine r_iload (pc := 1652) (i := 5) (tLw24.at 31 rfl) rfl ?_
  refine r_iconst (pc := 1654) (w := nI 2) (tLw24.at 32 rfl) (by decide) ?_
  first | refine r_iaddN (pc := 1655) (tLw24.at 33 rfl) ?_ | refine r_iadd (pc := 1655) (tLw24.at 33 rfl) ?_
  refine r_sld (pc := 1656) (tLw24.at 34 rfl) hbz rfl (by omega) hL ?_
  refine r_aload_n (pc := 1657) (i := 0) (tLw24.at 35 rfl) rfl rfl ?_
  refine r_iload (pc := 1658) (i := 5) (tLw24.at 36 rfl) rfl ?_
  refine r_iconst (pc := 1660) (w := nI 3) (tLw24.at 37 rfl) (by decide) ?_
  first | refine r_iaddN (pc := 1661) (tLw24.at 38 rfl) ?_ | refine r_iadd (pc := 1661) (tLw24.at 38 rfl) ?_
  refine r_sld (pc := 1662) (tLw24.at 39 rfl) hbz rfl (by omega) hL ?_
  refine r_aload_n (pc := 1663) (i := 0) (tLw24.at 40 rfl) rfl rfl ?_
  refine r_iload (pc := 1664) (i := 5) (tLw24.at 41 rfl) rfl ?_
  refine r_iconst (pc := 1666) (w := nI 4) (tLw24.at 42 rfl) (by decide) ?_
  first | refine r_iaddN (pc := 1667) (tLw24.at 43 rfl) ?_ | refine r_iadd (pc := 1667) (tLw24.at 43 rfl) ?_
  refine r_sld (pc := 1668) (tLw24.at 44 rfl) hbz rfl (by omega) hL ?_
  refine r_callV (M' := mX11_walk) (pc := 1669) (tLw24.at 45 rfl) ml_L_192 rfl mw_X11_walk ⟨by decide, by decide⟩ hfs rfl rfl hM2 rfl rfl (Nat.le_of_ble_eq_true rfl) (by show cells + mc + 0 ≤ 601024; omega) (by show slots + ms + 0 ≤ 7293034; omega) ?_
  rintro _ h2 top2 ⟨_, rfl, ⟨bb, rfl, hbb⟩, rfl, h110, Z', S', I2, hth⟩
  refine r_istore (pc := 1672) (i := 7) (tLw24.at 46 rfl) (by decide) ?_
  refine r_aload_n (pc := 1674) (i := 2) (tLw24.at 47 rfl) rfl rfl ?_
  refine r_callV (M' := mX11_thrown) (pc := 1675) (tLw24.at 48 rfl) ml_L_105 rfl mw_X11_thrown ⟨by decide, by decide⟩ I2.mo rfl rfl (c_thr I2) rfl rfl (Nat.le_of_ble_eq_true rfl) (by show cells + mc + 0 + 0 ≤ 601024; omega) (by show slots + ms + 0 + 0 ≤ 7293034; omega) ?_
  rintro _ _ _ ⟨rfl, rfl, rfl⟩
  refine r_iload (pc := 1678) (i := 6) (tLw24.at 49 rfl) rfl ?_
  refine r_icmp_eq (pc := 1680) 1685 (tLw24.at 50 rfl) (by decide) (fun _ => ?_) (fun c => absurd (by rw [hth]) c)
  refine r_iload (pc := 1685) (i := 6) (tLw24.at 53 rfl) rfl ?_
  refine r_if_ne (pc := 1687) 1702 (tLw24.at 54 rfl) (by decide) (fun _ => ?_) (fun c => ?_)
  · refine r_goto (pc := 1702) 2157 (tLw24.at 64 rfl) (by decide) ?_
    refine r_ls [some (.ref b), some (.ref x), some (.ref (x + 96)), some (.ref (x + 110)), some (.ref (x + 111)), some (.int (nI i)), some (.int (nI t)), some (.int bb), none] rfl (r_drop ?_)
    exact r_wide (k := cells + 1) (n := slots + 600) (by omega) (by omega) (hk _ _ _ _ I2)
  · have t0 : t = 0 := nI_z3 t ht3 c
    rw [← h110] at hfo
    refine r_aload_n (pc := 1690) (i := 3) (tLw24.at 55 rfl) rfl rfl ?_
    refine r_iconst (pc := 1691) (w := nI 0) (tLw24.at 56 rfl) (by decide) ?_
    refine r_lald (pc := 1692) (tLw24.at 57 rfl) hfo 0 rfl (by omega) (Nat.le_of_ble_eq_true rfl) ?_
    rw [hfy t0, ← hbb t0]
    refine r_iload (pc := 1693) (i := 7) (tLw24.at 58 rfl) rfl ?_
    refine r_i2l (pc := 1695) (tLw24.at 59 rfl) ?_
    refine r_lq (pc := 1696) 1702 (tLw24.at 60 rfl) (tLw24.at 61 rfl) (by decide) rfl ?_
    refine r_goto (pc := 1702) 2157 (tLw24.at 64 rfl) (by decide) ?_
    refine r_ls [some (.ref b), some (.ref x), some (.ref (x + 96)), some (.ref (x + 110)), some (.ref (x + 111)), some (.int (nI i)), some (.int (nI t)), some (.int bb), none] rfl (r_drop ?_)
    exact r_wide (k := cells + 1) (n := slots + 600) (by omega) (by omega) (hk _ _ _ _ I2)
end

