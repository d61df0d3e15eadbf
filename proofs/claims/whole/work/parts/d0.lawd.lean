/-! ===== the law: the calls 25 to 33 ===== -/
section
variable {v : Ev} {h : Hp} {top x b L i cells slots : Nat} {xs : Nat → Int32} {Z : CS} {S : MS}
theorem lw_25 (I : Inv v h top x Z S) (hbz : b < z0 v) (hi : i + 6 ≤ L) (hL : L ≤ 3072) (hc : cells + 1 ≤ 601024) (hs : slots + 600 ≤ 7293034) (hk : lwK v b L xs x i cells slots) : J v mL_law room_1 (lwQ2 b L xs lw_Z) (z0 v) cells slots h top 1705 (lwS b x i) [] := by
  obtain ⟨t, y, d, mc, ms, E, ⟨ht3, hd, hmc, hms⟩, hC, hM⟩ := op_setWeight I (xs (i + 1)) (xs (i + 2))
  refine r_aload_n (pc := 1705) (i := 1) (tLw25.at 0 rfl) rfl rfl ?_
  refine r_aload_n (pc := 1706) (i := 0) (tLw25.at 1 rfl) rfl rfl ?_
  refine r_iload (pc := 1707) (i := 5) (tLw25.at 2 rfl) rfl ?_
  refine r_iconst (pc := 1709) (w := nI 1) (tLw25.at 3 rfl) (by decide) ?_
  first | refine r_iaddN (pc := 1710) (tLw25.at 4 rfl) ?_ | refine r_iadd (pc := 1710) (tLw25.at 4 rfl) ?_
  refine r_sld (pc := 1711) (tLw25.at 5 rfl) hbz rfl (by omega) hL ?_
  refine r_aload_n (pc := 1712) (i := 0) (tLw25.at 6 rfl) rfl rfl ?_
  refine r_iload (pc := 1713) (i := 5) (tLw25.at 7 rfl) rfl ?_
  refine r_iconst (pc := 1715) (w := nI 2) (tLw25.at 8 rfl) (by decide) ?_
  first | refine r_iaddN (pc := 1716) (tLw25.at 9 rfl) ?_ | refine r_iadd (pc := 1716) (tLw25.at 9 rfl) ?_
  refine r_sld (pc := 1717) (tLw25.at 10 rfl) hbz rfl (by omega) hL ?_
  refine r_aload_n (pc := 1718) (i := 3) (tLw25.at 11 rfl) rfl rfl ?_
  refine r_callSH (M' := mL_setWeight) (pc := 1719) (tLw25.at 12 rfl) ml_L_193 rfl mw_L_setWeight ⟨by show d + 1 ≤ 2048; omega, by show 8 + (5 + 11) + 60 * d ≤ 84000; omega⟩ hC rfl rfl (Nat.le_of_ble_eq_true rfl) (by show cells + mc ≤ 601024; omega) (by show slots + ms ≤ 7293034; omega) ?_
  rintro _ h1 top1 ⟨rfl, hE, fo, hfo, hfy⟩
  obtain ⟨⟨fs, hfs⟩, hM2⟩ := hM h1 top1 hE
  refine r_istore (pc := 1722) (i := 6) (tLw25.at 13 rfl) (by decide) ?_
  refine r_aload_n (pc := 1724) (i := 2) (tLw25.at 14 rfl) rfl rfl ?_
  refine r_aload_n (pc := 1725) (i := 0) (tLw25.at 15 rfl) rfl rfl ?_
  refine r_iload (pc := 1726) (i := 5) (tLw25.at 16 rfl) rfl ?_
  refine r_iconst (pc := 1728) (w := nI 1) (tLw25.at 17 rfl) (by decide) ?_
  first | refine r_iaddN (pc := 1729) (tLw25.at 18 rfl) ?_ | refine r_iadd (pc := 1729) (tLw25.at 18 rfl) ?_
  refine r_sld (pc := 1730) (tLw25.at 19 rfl) hbz rfl (by omega) hL ?_
  refine r_aload_n (pc := 1731) (i := 0) (tLw25.at 20 rfl) rfl rfl ?_
  refine r_iload (pc := 1732) (i := 5) (tLw25.at 21 rfl) rfl ?_
  refine r_iconst (pc := 1734) (w := nI 2) (tLw25.at 22 rfl) (by decide) ?_
  first | refine r_iaddN (pc := 1735) (tLw25.at 23 rfl) ?_ | refine r_iadd (pc := 1735) (tLw25.at 23 rfl) ?_
  refine r_sld (pc := 1736) (tLw25.at 24 rfl) hbz rfl (by omega) hL ?_
  refine r_callV (M' := mX11_setWeight) (pc := 1737) (tLw25.at 25 rfl) ml_L_195 rfl mw_X11_setWeight ⟨by decide, by decide⟩ hfs rfl rfl hM2 rfl rfl (Nat.le_of_ble_eq_true rfl) (by show cells + mc + 0 ≤ 601024; omega) (by show slots + ms + 0 ≤ 7293034; omega) ?_
  rintro _ h2 top2 ⟨_, rfl, ⟨bb, rfl, hbb⟩, rfl, h110, Z', S', I2, hth⟩
  refine r_istore (pc := 1740) (i := 7) (tLw25.at 26 rfl) (by decide) ?_
  refine r_aload_n (pc := 1742) (i := 2) (tLw25.at 27 rfl) rfl rfl ?_
  refine r_callV (M' := mX11_thrown) (pc := 1743) (tLw25.at 28 rfl) ml_L_105 rfl mw_X11_thrown ⟨by decide, by decide⟩ I2.mo rfl rfl (c_thr I2) rfl rfl (Nat.le_of_ble_eq_true rfl) (by show cells + mc + 0 + 0 ≤ 601024; omega) (by show slots + ms + 0 + 0 ≤ 7293034; omega) ?_
  rintro _ _ _ ⟨rfl, rfl, rfl⟩
  refine r_iload (pc := 1746) (i := 6) (tLw25.at 29 rfl) rfl ?_
  refine r_icmp_eq (pc := 1748) 1753 (tLw25.at 30 rfl) (by decide) (fun _ => ?_) (fun c => absurd (by rw [hth]) c)
  refine r_iload (pc := 1753) (i := 6) (tLw25.at 33 rfl) rfl ?_
  refine r_if_ne (pc := 1755) 1770 (tLw25.at 34 rfl) (by decide) (fun _ => ?_) (fun c => ?_)
  · refine r_goto (pc := 1770) 2157 (tLw25.at 44 rfl) (by decide) ?_
    refine r_ls [some (.ref b), some (.ref x), some (.ref (x + 96)), some (.ref (x + 110)), some (.ref (x + 111)), some (.int (nI i)), some (.int (nI t)), some (.int bb), none] rfl (r_drop ?_)
    exact r_wide (k := cells + 1) (n := slots + 600) (by omega) (by omega) (hk _ _ _ _ I2)
  · have t0 : t = 0 := nI_z3 t ht3 c
    rw [← h110] at hfo
    refine r_aload_n (pc := 1758) (i := 3) (tLw25.at 35 rfl) rfl rfl ?_
    refine r_iconst (pc := 1759) (w := nI 0) (tLw25.at 36 rfl) (by decide) ?_
    refine r_lald (pc := 1760) (tLw25.at 37 rfl) hfo 0 rfl (by omega) (Nat.le_of_ble_eq_true rfl) ?_
    rw [hfy t0, ← hbb t0]
    refine r_iload (pc := 1761) (i := 7) (tLw25.at 38 rfl) rfl ?_
    refine r_i2l (pc := 1763) (tLw25.at 39 rfl) ?_
    refine r_lq (pc := 1764) 1770 (tLw25.at 40 rfl) (tLw25.at 41 rfl) (by decide) rfl ?_
    refine r_goto (pc := 1770) 2157 (tLw25.at 44 rfl) (by decide) ?_
    refine r_ls [some (.ref b), some (.ref x), some (.ref (x + 96)), some (.ref (x + 110)), some (.ref (x + 111)), some (.int (nI i)), some (.int (nI t)), some (.int bb), none] rfl (r_drop ?_)
    exact r_wide (k := cells + 1) (n := slots + 600) (by omega) (by omega) (hk _ _ _ _ I2)
theorem lw_26 (I : Inv v h top x Z S) (hbz : b < z0 v) (hi : i + 6 ≤ L) (hL : L ≤ 3072) (hc : cells + 1 ≤ 601024) (hs : slots + 600 ≤ 7293034) (hk : lwK v b L xs x i cells slots) : J v mL_law room_1 (lwQ2 b L xs lw_Z) (z0 v) cells slots h top 1773 (lwS b x i) [] := by
  obtain ⟨t, y, d, mc, ms, E, ⟨ht3, hd, hmc, hms⟩, hC, hM⟩ := op_addEdge I (xs (i + 1)) (xs (i + 2)) (xs (i + 3))
  refine r_aload_n (pc := 1773) (i := 1) (tLw26.at 0 rfl) rfl rfl ?_
  refine r_aload_n (pc := 1774) (i := 0) (tLw26.at 1 rfl) rfl rfl ?_
  refine r_iload (pc := 1775) (i := 5) (tLw26.at 2 rfl) rfl ?_
  refine r_iconst (pc := 1777) (w := nI 1) (tLw26.at 3 rfl) (by decide) ?_
  first | refine r_iaddN (pc := 1778) (tLw26.at 4 rfl) ?_ | refine r_iadd (pc := 1778) (tLw26.at 4 rfl) ?_
  refine r_sld (pc := 1779) (tLw26.at 5 rfl) hbz rfl (by omega) hL ?_
  refine r_aload_n (pc := 1780) (i := 0) (tLw26.at 6 rfl) rfl rfl ?_
  refine r_iload (pc := 1781) (i := 5) (tLw26.at 7 rfl) rfl ?_
  refine r_iconst (pc := 1783) (w := nI 2) (tLw26.at 8 rfl) (by decide) ?_
  first | refine r_iaddN (pc := 1784) (tLw26.at 9 rfl) ?_ | refine r_iadd (pc := 1784) (tLw26.at 9 rfl) ?_
  refine r_sld (pc := 1785) (tLw26.at 10 rfl) hbz rfl (by omega) hL ?_
  refine r_aload_n (pc := 1786) (i := 0) (tLw26.at 11 rfl) rfl rfl ?_
  refine r_iload (pc := 1787) (i := 5) (tLw26.at 12 rfl) rfl ?_
  refine r_iconst (pc := 1789) (w := nI 3) (tLw26.at 13 rfl) (by decide) ?_
  first | refine r_iaddN (pc := 1790) (tLw26.at 14 rfl) ?_ | refine r_iadd (pc := 1790) (tLw26.at 14 rfl) ?_
  refine r_sld (pc := 1791) (tLw26.at 15 rfl) hbz rfl (by omega) hL ?_
  refine r_aload_n (pc := 1792) (i := 3) (tLw26.at 16 rfl) rfl rfl ?_
  refine r_callSH (M' := mL_addEdge) (pc := 1793) (tLw26.at 17 rfl) ml_L_196 rfl mw_L_addEdge ⟨by show d + 1 ≤ 2048; omega, by show 8 + (6 + 11) + 60 * d ≤ 84000; omega⟩ hC rfl rfl (Nat.le_of_ble_eq_true rfl) (by show cells + mc ≤ 601024; omega) (by show slots + ms ≤ 7293034; omega) ?_
  rintro _ h1 top1 ⟨rfl, hE, fo, hfo, hfy⟩
  obtain ⟨⟨fs, hfs⟩, hM2⟩ := hM h1 top1 hE
  refine r_istore (pc := 1796) (i := 6) (tLw26.at 18 rfl) (by decide) ?_
  refine r_aload_n (pc := 1798) (i := 2) (tLw26.at 19 rfl) rfl rfl ?_
  refine r_aload_n (pc := 1799) (i := 0) (tLw26.at 20 rfl) rfl rfl ?_
  refine r_iload (pc := 1800) (i := 5) (tLw26.at 21 rfl) rfl ?_
  refine r_iconst (pc := 1802) (w := nI 1) (tLw26.at 22 rfl) (by decide) ?_
  first | refine r_iaddN (pc := 1803) (tLw26.at 23 rfl) ?_ | refine r_iadd (pc := 1803) (tLw26.at 23 rfl) ?_
  refine r_sld (pc := 1804) (tLw26.at 24 rfl) hbz rfl (by omega) hL ?_
  refine r_aload_n (pc := 1805) (i := 0) (tLw26.at 25 rfl) rfl rfl ?_
  refine r_iload (pc := 1806) (i := 5) (tLw26.at 26 rfl) rfl ?_
  refine r_iconst (pc := 1808) (w := nI 2) (tLw26.at 27 rfl) (by decide) ?_
  first | refine r_iaddN (pc := 1809) (tLw26.at 28 rfl) ?_ | refine r_iadd (pc := 1809) (tLw26.at 28 rfl) ?_
  refine r_sld (pc := 1810) (tLw26.at 29 rfl) hbz rfl (by omega) hL ?_
  refine r_aload_n (pc := 1811) (i := 0) (tLw26.at 30 rfl) rfl rfl ?_
  refine r_iload (pc := 1812) (i := 5) (tLw26.at 31 rfl) rfl ?_
  refine r_iconst (pc := 1814) (w := nI 3) (tLw26.at 32 rfl) (by decide) ?_
  first | refine r_iaddN (pc := 1815) (tLw26.at 33 rfl) ?_ | refine r_iadd (pc := 1815) (tLw26.at 33 rfl) ?_
  refine r_sld (pc := 1816) (tLw26.at 34 rfl) hbz rfl (by omega) hL ?_
  refine r_callV (M' := mX11_addEdge) (pc := 1817) (tLw26.at 35 rfl) ml_L_199 rfl mw_X11_addEdge ⟨by decide, by decide⟩ hfs rfl rfl hM2 rfl rfl (Nat.le_of_ble_eq_true rfl) (by show cells + mc + 0 ≤ 601024; omega) (by show slots + ms + 0 ≤ 7293034; omega) ?_
  rintro _ h2 top2 ⟨_, rfl, ⟨bb, rfl, hbb⟩, rfl, h110, Z', S', I2, hth⟩
  refine r_istore (pc := 1820) (i := 7) (tLw26.at 36 rfl) (by decide) ?_
  refine r_aload_n (pc := 1822) (i := 2) (tLw26.at 37 rfl) rfl rfl ?_
  refine r_callV (M' := mX11_thrown) (pc := 1823) (tLw26.at 38 rfl) ml_L_105 rfl mw_X11_thrown ⟨by decide, by decide⟩ I2.mo rfl rfl (c_thr I2) rfl rfl (Nat.le_of_ble_eq_true rfl) (by show cells + mc + 0 + 0 ≤ 601024; omega) (by show slots + ms + 0 + 0 ≤ 7293034; omega) ?_
  rintro _ _ _ ⟨rfl, rfl, rfl⟩
  refine r_iload (pc := 1826) (i := 6) (tLw26.at 39 rfl) rfl ?_
  refine r_icmp_eq (pc := 1828) 1833 (tLw26.at 40 rfl) (by decide) (fun _ => ?_) (fun c => absurd (by rw [hth]) c)
  refine r_iload (pc := 1833) (i := 6) (tLw26.at 43 rfl) rfl ?_
  refine r_if_ne (pc := 1835) 1850 (tLw26.at 44 rfl) (by decide) (fun _ => ?_) (fun c => ?_)
  · refine r_goto (pc := 1850) 2157 (tLw26.at 54 rfl) (by decide) ?_
    refine r_ls [some (.ref b), some (.ref x), some (.ref (x + 96)), some (.ref (x + 110)), some (.ref (x + 111)), some (.int (nI i)), some (.int (nI t)), some (.int bb), none] rfl (r_drop ?_)
    exact r_wide (k := cells + 1) (n := slots + 600) (by omega) (by omega) (hk _ _ _ _ I2)
  · have t0 : t = 0 := nI_z3 t ht3 c
    rw [← h110] at hfo
    refine r_aload_n (pc := 1838) (i := 3) (tLw26.at 45 rfl) rfl rfl ?_
    refine r_iconst (pc := 1839) (w := nI 0) (tLw26.at 46 rfl) (by decide) ?_
    refine r_lald (pc := 1840) (tLw26.at 47 rfl) hfo 0 rfl (by omega) (Nat.le_of_ble_eq_true rfl) ?_
    rw [hfy t0, ← hbb t0]
    refine r_iload (pc := 1841) (i := 7) (tLw26.at 48 rfl) rfl ?_
    refine r_i2l (pc := 1843) (tLw26.at 49 rfl) ?_
    refine r_lq (pc := 1844) 1850 (tLw26.at 50 rfl) (tLw26.at 51 rfl) (by decide) rfl ?_
    refine r_goto (pc := 1850) 2157 (tLw26.at 54 rfl) (by decide) ?_
    refine r_ls [some (.ref b), some (.ref x), some (.ref (x + 96)), some (.ref (x + 110)), some (.ref (x + 111)), some (.int (nI i)), some (.int (nI t)), some (.int bb), none] rfl (r_drop ?_)
    exact r_wide (k := cells + 1) (n := slots + 600) (by omega) (by omega) (hk _ _ _ _ I2)
theorem lw_27 (I : Inv v h top x Z S) (hbz : b < z0 v) (hi : i + 6 ≤ L) (hL : L ≤ 3072) (hc : cells + 1 ≤ 601024) (hs : slots + 600 ≤ 7293034) (hk : lwK v b L xs x i cells slots) : J v mL_law room_1 (lwQ2 b L xs lw_Z) (z0 v) cells slots h top 1853 (lwS b x i) [] := by
  obtain ⟨t, y, d, mc, ms, E, ⟨ht3, hd, hmc, hms⟩, hC, hM⟩ := op_removeEdge I (xs (i + 1))
  refine r_aload_n (pc := 1853) (i := 1) (tLw27.at 0 rfl) rfl rfl ?_
  refine r_aload_n (pc := 1854) (i := 0) (tLw27.at 1 rfl) rfl rfl ?_
  refine r_iload (pc := 1855) (i := 5) (tLw27.at 2 rfl) rfl ?_
  refine r_iconst (pc := 1857) (w := nI 1) (tLw27.at 3 rfl) (by decide) ?_
  first | refine r_iaddN (pc := 1858) (tLw27.at 4 rfl) ?_ | refine r_iadd (pc := 1858) (tLw27.at 4 rfl) ?_
  refine r_sld (pc := 1859) (tLw27.at 5 rfl) hbz rfl (by omega) hL ?_
  refine r_aload_n (pc := 1860) (i := 3) (tLw27.at 6 rfl) rfl rfl ?_
  refine r_callSH (M' := mL_removeEdge) (pc := 1861) (tLw27.at 7 rfl) ml_L_200 rfl mw_L_removeEdge ⟨by show d + 1 ≤ 2048; omega, by show 8 + (4 + 11) + 60 * d ≤ 84000; omega⟩ hC rfl rfl (Nat.le_of_ble_eq_true rfl) (by show cells + mc ≤ 601024; omega) (by show slots + ms ≤ 7293034; omega) ?_
  rintro _ h1 top1 ⟨rfl, hE, fo, hfo, hfy⟩
  obtain ⟨⟨fs, hfs⟩, hM2⟩ := hM h1 top1 hE
  refine r_istore (pc := 1864) (i := 6) (tLw27.at 8 rfl) (by decide) ?_
  refine r_aload_n (pc := 1866) (i := 2) (tLw27.at 9 rfl) rfl rfl ?_
  refine r_aload_n (pc := 1867) (i := 0) (tLw27.at 10 rfl) rfl rfl ?_
  refine r_iload (pc := 1868) (i := 5) (tLw27.at 11 rfl) rfl ?_
  refine r_iconst (pc := 1870) (w := nI 1) (tLw27.at 12 rfl) (by decide) ?_
  first | refine r_iaddN (pc := 1871) (tLw27.at 13 rfl) ?_ | refine r_iadd (pc := 1871) (tLw27.at 13 rfl) ?_
  refine r_sld (pc := 1872) (tLw27.at 14 rfl) hbz rfl (by omega) hL ?_
  refine r_callV (M' := mX11_removeEdge) (pc := 1873) (tLw27.at 15 rfl) ml_L_202 rfl mw_X11_removeEdge ⟨by decide, by decide⟩ hfs rfl rfl hM2 rfl rfl (Nat.le_of_ble_eq_true rfl) (by show cells + mc + 0 ≤ 601024; omega) (by show slots + ms + 0 ≤ 7293034; omega) ?_
  rintro _ h2 top2 ⟨_, rfl, ⟨bb, rfl, hbb⟩, rfl, h110, Z', S', I2, hth⟩
  refine r_istore (pc := 1876) (i := 7) (tLw27.at 16 rfl) (by decide) ?_
  refine r_aload_n (pc := 1878) (i := 2) (tLw27.at 17 rfl) rfl rfl ?_
  refine r_callV (M' := mX11_thrown) (pc := 1879) (tLw27.at 18 rfl) ml_L_105 rfl mw_X11_thrown ⟨by decide, by decide⟩ I2.mo rfl rfl (c_thr I2) rfl rfl (Nat.le_of_ble_eq_true rfl) (by show cells + mc + 0 + 0 ≤ 601024; omega) (by show slots + ms + 0 + 0 ≤ 7293034; omega) ?_
  rintro _ _ _ ⟨rfl, rfl, rfl⟩
  refine r_iload (pc := 1882) (i := 6) (tLw27.at 19 rfl) rfl ?_
  refine r_icmp_eq (pc := 1884) 1889 (tLw27.at 20 rfl) (by decide) (fun _ => ?_) (fun c => absurd (by rw [hth]) c)
  refine r_iload (pc := 1889) (i := 6) (tLw27.at 23 rfl) rfl ?_
  refine r_if_ne (pc := 1891) 1906 (tLw27.at 24 rfl) (by decide) (fun _ => ?_) (fun c => ?_)
  · refine r_goto (pc := 1906) 2157 (tLw27.at 34 rfl) (by decide) ?_
    refine r_ls [some (.ref b), some (.ref x), some (.ref (x + 96)), some (.ref (x + 110)), some (.ref (x + 111)), some (.int (nI i)), some (.int (nI t)), some (.int bb), none] rfl (r_drop ?_)
    exact r_wide (k := cells + 1) (n := slots + 600) (by omega) (by omega) (hk _ _ _ _ I2)
  · have t0 : t = 0 := nI_z3 t ht3 c
    rw [← h110] at hfo
    refine r_aload_n (pc := 1894) (i := 3) (tLw27.at 25 rfl) rfl rfl ?_
    refine r_iconst (pc := 1895) (w := nI 0) (tLw27.at 26 rfl) (by decide) ?_
    refine r_lald (pc := 1896) (tLw27.at 27 rfl) hfo 0 rfl (by omega) (Nat.le_of_ble_eq_true rfl) ?_
    rw [hfy t0, ← hbb t0]
    refine r_iload (pc := 1897) (i := 7) (tLw27.at 28 rfl) rfl ?_
    refine r_i2l (pc := 1899) (tLw27.at 29 rfl) ?_
    refine r_lq (pc := 1900) 1906 (tLw27.at 30 rfl) (tLw27.at 31 rfl) (by decide) rfl ?_
    refine r_goto (pc := 1906) 2157 (tLw27.at 34 rfl) (by decide) ?_
    refine r_ls [some (.ref b), some (.ref x), some (.ref (x + 96)), some (.ref (x + 110)), some (.ref (x + 111)), some (.int (nI i)), some (.int (nI t)), some (.int bb), none] rfl (r_drop ?_)
    exact r_wide (k := cells + 1) (n := slots + 600) (by omega) (by omega) (hk _ _ _ _ I2)
theorem lw_28 (I : Inv v h top x Z S) (hbz : b < z0 v) (hi : i + 6 ≤ L) (hL : L ≤ 3072) (hc : cells + 1 ≤ 601024) (hs : slots + 600 ≤ 7293034) (hk : lwK v b L xs x i cells slots) : J v mL_law room_1 (lwQ2 b L xs lw_Z) (z0 v) cells slots h top 1909 (lwS b x i) [] := by
  obtain ⟨t, y, d, mc, ms, E, ⟨ht3, hd, hmc, hms⟩, hC, hM⟩ := op_setAbsorbing I (p := if xs (i + 2) = 0 then 0 else 1) (by split <;> omega) (xs (i + 1))
  refine r_aload_n (pc := 1909) (i := 1) (tLw28.at 0 rfl) rfl rfl ?_
  refine r_aload_n (pc := 1910) (i := 0) (tLw28.at 1 rfl) rfl rfl ?_
  refine r_iload (pc := 1911) (i := 5) (tLw28.at 2 rfl) rfl ?_
  refine r_iconst (pc := 1913) (w := nI 1) (tLw28.at 3 rfl) (by decide) ?_
  first | refine r_iaddN (pc := 1914) (tLw28.at 4 rfl) ?_ | refine r_iadd (pc := 1914) (tLw28.at 4 rfl) ?_
  refine r_sld (pc := 1915) (tLw28.at 5 rfl) hbz rfl (by omega) hL ?_
  refine r_aload_n (pc := 1916) (i := 0) (tLw28.at 6 rfl) rfl rfl ?_
  refine r_iload (pc := 1917) (i := 5) (tLw28.at 7 rfl) rfl ?_
  refine r_iconst (pc := 1919) (w := nI 2) (tLw28.at 8 rfl) (by decide) ?_
  first | refine r_iaddN (pc := 1920) (tLw28.at 9 rfl) ?_ | refine r_iadd (pc := 1920) (tLw28.at 9 rfl) ?_
  refine r_sld (pc := 1921) (tLw28.at 10 rfl) hbz rfl (by omega) hL ?_
  refine r_bool (pc := 1922) (tLw28.at 11 rfl) (tLw28.at 12 rfl) (tLw28.at 13 rfl) (tLw28.at 14 rfl) ?_
  refine r_aload_n (pc := 1930) (i := 3) (tLw28.at 15 rfl) rfl rfl ?_
  refine r_callSH (M' := mL_setAbsorbing) (pc := 1931) (tLw28.at 16 rfl) ml_L_203 rfl mw_L_setAbsorbing ⟨by show d + 1 ≤ 2048; omega, by show 8 + (5 + 11) + 60 * d ≤ 84000; omega⟩ hC rfl rfl (Nat.le_of_ble_eq_true rfl) (by show cells + mc ≤ 601024; omega) (by show slots + ms ≤ 7293034; omega) ?_
  rintro _ h1 top1 ⟨rfl, hE, fo, hfo, hfy⟩
  obtain ⟨⟨fs, hfs⟩, hM2⟩ := hM h1 top1 hE
  refine r_istore (pc := 1934) (i := 6) (tLw28.at 17 rfl) (by decide) ?_
  refine r_aload_n (pc := 1936) (i := 2) (tLw28.at 18 rfl) rfl rfl ?_
  refine r_aload_n (pc := 1937) (i := 0) (tLw28.at 19 rfl) rfl rfl ?_
  refine r_iload (pc := 1938) (i := 5) (tLw28.at 20 rfl) rfl ?_
  refine r_iconst (pc := 1940) (w := nI 1) (tLw28.at 21 rfl) (by decide) ?_
  first | refine r_iaddN (pc := 1941) (tLw28.at 22 rfl) ?_ | refine r_iadd (pc := 1941) (tLw28.at 22 rfl) ?_
  refine r_sld (pc := 1942) (tLw28.at 23 rfl) hbz rfl (by omega) hL ?_
  refine r_aload_n (pc := 1943) (i := 0) (tLw28.at 24 rfl) rfl rfl ?_
  refine r_iload (pc := 1944) (i := 5) (tLw28.at 25 rfl) rfl ?_
  refine r_iconst (pc := 1946) (w := nI 2) (tLw28.at 26 rfl) (by decide) ?_
  first | refine r_iaddN (pc := 1947) (tLw28.at 27 rfl) ?_ | refine r_iadd (pc := 1947) (tLw28.at 27 rfl) ?_
  refine r_sld (pc := 1948) (tLw28.at 28 rfl) hbz rfl (by omega) hL ?_
  refine r_bool (pc := 1949) (tLw28.at 29 rfl) (tLw28.at 30 rfl) (tLw28.at 31 rfl) (tLw28.at 32 rfl) ?_
  refine r_callV (M' := mX11_setAbsorbing) (pc := 1957) (tLw28.at 33 rfl) ml_L_205 rfl mw_X11_setAbsorbing ⟨by decide, by decide⟩ hfs rfl rfl hM2 rfl rfl (Nat.le_of_ble_eq_true rfl) (by show cells + mc + 0 ≤ 601024; omega) (by show slots + ms + 0 ≤ 7293034; omega) ?_
  rintro _ h2 top2 ⟨_, rfl, ⟨bb, rfl, hbb⟩, rfl, h110, Z', S', I2, hth⟩
  refine r_istore (pc := 1960) (i := 7) (tLw28.at 34 rfl) (by decide) ?_
  refine r_aload_n (pc := 1962) (i := 2) (tLw28.at 35 rfl) rfl rfl ?_
  refine r_callV (M' := mX11_thrown) (pc := 1963) (tLw28.at 36 rfl) ml_L_105 rfl mw_X11_thrown ⟨by decide, by decide⟩ I2.mo rfl rfl (c_thr I2) rfl rfl (Nat.le_of_ble_eq_true rfl) (by show cells + mc + 0 + 0 ≤ 601024; omega) (by show slots + ms + 0 + 0 ≤ 7293034; omega) ?_
  rintro _ _ _ ⟨rfl, rfl, rfl⟩
  refine r_iload (pc := 1966) (i := 6) (tLw28.at 37 rfl) rfl ?_
  refine r_icmp_eq (pc := 1968) 1973 (tLw28.at 38 rfl) (by decide) (fun _ => ?_) (fun c => absurd (by rw [hth]) c)
  refine r_iload (pc := 1973) (i := 6) (tLw28.at 41 rfl) rfl ?_
  refine r_if_ne (pc := 1975) 1990 (tLw28.at 42 rfl) (by decide) (fun _ => ?_) (fun c => ?_)
  · refine r_goto (pc := 1990) 2157 (tLw28.at 52 rfl) (by decide) ?_
    refine r_ls [some (.ref b), some (.ref x), some (.ref (x + 96)), some (.ref (x + 110)), some (.ref (x + 111)), some (.int (nI i)), some (.int (nI t)), some (.int bb), none] rfl (r_drop ?_)
    exact r_wide (k := cells + 1) (n := slots + 600) (by omega) (by omega) (hk _ _ _ _ I2)
  · have t0 : t = 0 := nI_z3 t ht3 c
    rw [← h110] at hfo
    refine r_aload_n (pc := 1978) (i := 3) (tLw28.at 43 rfl) rfl rfl ?_
    refine r_iconst (pc := 1979) (w := nI 0) (tLw28.at 44 rfl) (by decide) ?_
    refine r_lald (pc := 1980) (tLw28.at 45 rfl) hfo 0 rfl (by omega) (Nat.le_of_ble_eq_true rfl) ?_
    rw [hfy t0, ← hbb t0]
    refine r_iload (pc := 1981) (i := 7) (tLw28.at 46 rfl) rfl ?_
    refine r_i2l (pc := 1983) (tLw28.at 47 rfl) ?_
    refine r_lq (pc := 1984) 1990 (tLw28.at 48 rfl) (tLw28.at 49 rfl) (by decide) rfl ?_
    refine r_goto (pc := 1990) 2157 (tLw28.at 52 rfl) (by decide) ?_
    refine r_ls [some (.ref b), some (.ref x), some (.ref (x + 96)), some (.ref (x + 110)), some (.ref (x + 111)), some (.int (nI i)), some (.int (nI t)), some (.int bb), none] rfl (r_drop ?_)
    exact r_wide (k := cells + 1) (n := slots + 600) (by omega) (by omega) (hk _ _ _ _ I2)
theorem lw_29 (I : Inv v h top x Z S) (hbz : b < z0 v) (hi : i + 6 ≤ L) (hL : L ≤ 3072) (hc : cells + 1 ≤ 601024) (hs : slots + 600 ≤ 7293034) (hk : lwK v b L xs x i cells slots) : J v mL_law room_1 (lwQ2 b L xs lw_Z) (z0 v) cells slots h top 1993 (lwS b x i) [] := by
  obtain ⟨t, y, d, mc, ms, E, ⟨ht3, hd, hmc, hms⟩, hC, hM⟩ := op_join I (xs (i + 1)) (xs (i + 2))
  refine r_aload_n (pc := 1993) (i := 1) (tLw29.at 0 rfl) rfl rfl ?_
  refine r_aload_n (pc := 1994) (i := 0) (tLw29.at 1 rfl) rfl rfl ?_
  refine r_iload (pc := 1995) (i := 5) (tLw29.at 2 rfl) rfl ?_
  refine r_iconst (pc := 1997) (w := nI 1) (tLw29.at 3 rfl) (by decide) ?_
  first | refine r_iaddN (pc := 1998) (tLw29.at 4 rfl) ?_ | refine r_iadd (pc := 1998) (tLw29.at 4 rfl) ?_
  refine r_sld (pc := 1999) (tLw29.at 5 rfl) hbz rfl (by omega) hL ?_
  refine r_aload_n (pc := 2000) (i := 0) (tLw29.at 6 rfl) rfl rfl ?_
  refine r_iload (pc := 2001) (i := 5) (tLw29.at 7 rfl) rfl ?_
  refine r_iconst (pc := 2003) (w := nI 2) (tLw29.at 8 rfl) (by decide) ?_
  first | refine r_iaddN (pc := 2004) (tLw29.at 9 rfl) ?_ | refine r_iadd (pc := 2004) (tLw29.at 9 rfl) ?_
  refine r_sld (pc := 2005) (tLw29.at 10 rfl) hbz rfl (by omega) hL ?_
  refine r_aload_n (pc := 2006) (i := 3) (tLw29.at 11 rfl) rfl rfl ?_
  refine r_callSH (M' := mL_join) (pc := 2007) (tLw29.at 12 rfl) ml_L_206 rfl mw_L_join ⟨by show d + 1 ≤ 2048; omega, by show 8 + (5 + 11) + 60 * d ≤ 84000; omega⟩ hC rfl rfl (Nat.le_of_ble_eq_true rfl) (by show cells + mc ≤ 601024; omega) (by show slots + ms ≤ 7293034; omega) ?_
  rintro _ h1 top1 ⟨rfl, hE, fo, hfo, hfy⟩
  obtain ⟨⟨fs, hfs⟩, hM2⟩ := hM h1 top1 hE
  refine r_istore (pc := 2010) (i := 6) (tLw29.at 13 rfl) (by decide) ?_
  refine r_aload_n (pc := 2012) (i := 2) (tLw29.at 14 rfl) rfl rfl ?_
  refine r_aload_n (pc := 2013) (i := 0) (tLw29.at 15 rfl) rfl rfl ?_
  refine r_iload (pc := 2014) (i := 5) (tLw29.at 16 rfl) rfl ?_
  refine r_iconst (pc := 2016) (w := nI 1) (tLw29.at 17 rfl) (by decide) ?_
  first | refine r_iaddN (pc := 2017) (tLw29.at 18 rfl) ?_ | refine r_iadd (pc := 2017) (tLw29.at 18 rfl) ?_
  refine r_sld (pc := 2018) (tLw29.at 19 rfl) hbz rfl (by omega) hL ?_
  refine r_aload_n (pc := 2019) (i := 0) (tLw29.at 20 rfl) rfl rfl ?_
  refine r_iload (pc := 2020) (i := 5) (tLw29.at 21 rfl) rfl ?_
  refine r_iconst (pc := 2022) (w := nI 2) (tLw29.at 22 rfl) (by decide) ?_
  first | refine r_iaddN (pc := 2023) (tLw29.at 23 rfl) ?_ | refine r_iadd (pc := 2023) (tLw29.at 23 rfl) ?_
  refine r_sld (pc := 2024) (tLw29.at 24 rfl) hbz rfl (by omega) hL ?_
  refine r_callV (M' := mX11_join) (pc := 2025) (tLw29.at 25 rfl) ml_L_208 rfl mw_X11_join ⟨by decide, by decide⟩ hfs rfl rfl hM2 rfl rfl (Nat.le_of_ble_eq_true rfl) (by show cells + mc + 0 ≤ 601024; omega) (by show slots + ms + 0 ≤ 7293034; omega) ?_
  rintro _ h2 top2 ⟨_, rfl, ⟨bb, rfl, hbb⟩, rfl, h110, Z', S', I2, hth⟩
  refine r_istore (pc := 2028) (i := 7) (tLw29.at 26 rfl) (by decide) ?_
  refine r_aload_n (pc := 2030) (i := 2) (tLw29.at 27 rfl) rfl rfl ?_
  refine r_callV (M' := mX11_thrown) (pc := 2031) (tLw29.at 28 rfl) ml_L_105 rfl mw_X11_thrown ⟨by decide, by decide⟩ I2.mo rfl rfl (c_thr I2) rfl rfl (Nat.le_of_ble_eq_true rfl) (by show cells + mc + 0 + 0 ≤ 601024; omega) (by show slots + ms + 0 + 0 ≤ 7293034; omega) ?_
  rintro _ _ _ ⟨rfl, rfl, rfl⟩
  refine r_iload (pc := 2034) (i := 6) (tLw29.at 29 rfl) rfl ?_
  refine r_icmp_eq (pc := 2036) 2041 (tLw29.at 30 rfl) (by decide) (fun _ => ?_) (fun c => absurd (by rw [hth]) c)
  refine r_iload (pc := 2041) (i := 6) (tLw29.at 33 rfl) rfl ?_
  refine r_if_ne (pc := 2043) 2058 (tLw29.at 34 rfl) (by decide) (fun _ => ?_) (fun c => ?_)
  · refine r_goto (pc := 2058) 2157 (tLw29.at 44 rfl) (by decide) ?_
    refine r_ls [some (.ref b), some (.ref x), some (.ref (x + 96)), some (.ref (x + 110)), some (.ref (x + 111)), some (.int (nI i)), some (.int (nI t)), some (.int bb), none] rfl (r_drop ?_)
    exact r_wide (k := cells + 1) (n := slots + 600) (by omega) (by omega) (hk _ _ _ _ I2)
  · have t0 : t = 0 := nI_z3 t ht3 c
    rw [← h110] at hfo
    refine r_aload_n (pc := 2046) (i := 3) (tLw29.at 35 rfl) rfl rfl ?_
    refine r_iconst (pc := 2047) (w := nI 0) (tLw29.at 36 rfl) (by decide) ?_
    refine r_lald (pc := 2048) (tLw29.at 37 rfl) hfo 0 rfl (by omega) (Nat.le_of_ble_eq_true rfl) ?_
    rw [hfy t0, ← hbb t0]
    refine r_iload (pc := 2049) (i := 7) (tLw29.at 38 rfl) rfl ?_
    refine r_i2l (pc := 2051) (tLw29.at 39 rfl) ?_
    refine r_lq (pc := 2052) 2058 (tLw29.at 40 rfl) (tLw29.at 41 rfl) (by decide) rfl ?_
    refine r_goto (pc := 2058) 2157 (tLw29.at 44 rfl) (by decide) ?_
    refine r_ls [some (.ref b), some (.ref x), some (.ref (x + 96)), some (.ref (x + 110)), some (.ref (x + 111)), some (.int (nI i)), some (.int (nI t)), some (.int bb), none] rfl (r_drop ?_)
    exact r_wide (k := cells + 1) (n := slots + 600) (by omega) (by omega) (hk _ _ _ _ I2)
theorem lw_30 (I : Inv v h top x Z S) (hbz : b < z0 v) (hi : i + 6 ≤ L) (hL : L ≤ 3072) (hc : cells + 1 ≤ 601024) (hs : slots + 600 ≤ 7293034) (hk : lwK v b L xs x i cells slots) : J v mL_law room_1 (lwQ2 b L xs lw_Z) (z0 v) cells slots h top 2061 (lwS b x i) [] := by
  obtain ⟨t, y, d, mc, ms, E, ⟨ht3, hd, hmc, hms⟩, hC, hM⟩ := op_separate I (xs (i + 1))
  refine r_aload_n (pc := 2061) (i := 1) (tLw30.at 0 rfl) rfl rfl ?_
  refine r_aload_n (pc := 2062) (i := 0) (tLw30.at 1 rfl) rfl rfl ?_
  refine r_iload (pc := 2063) (i := 5) (tLw30.at 2 rfl) rfl ?_
  refine r_iconst (pc := 2065) (w := nI 1) (tLw30.at 3 rfl) (by decide) ?_
  first | refine r_iaddN (pc := 2066) (tLw30.at 4 rfl) ?_ | refine r_iadd (pc := 2066) (tLw30.at 4 rfl) ?_
  refine r_sld (pc := 2067) (tLw30.at 5 rfl) hbz rfl (by omega) hL ?_
  refine r_aload_n (pc := 2068) (i := 3) (tLw30.at 6 rfl) rfl rfl ?_
  refine r_callSH (M' := mL_separate) (pc := 2069) (tLw30.at 7 rfl) ml_L_209 rfl mw_L_separate ⟨by show d + 1 ≤ 2048; omega, by show 8 + (4 + 11) + 60 * d ≤ 84000; omega⟩ hC rfl rfl (Nat.le_of_ble_eq_true rfl) (by show cells + mc ≤ 601024; omega) (by show slots + ms ≤ 7293034; omega) ?_
  rintro _ h1 top1 ⟨rfl, hE, fo, hfo, hfy⟩
  obtain ⟨⟨fs, hfs⟩, hM2⟩ := hM h1 top1 hE
  refine r_istore (pc := 2072) (i := 6) (tLw30.at 8 rfl) (by decide) ?_
  refine r_aload_n (pc := 2074) (i := 2) (tLw30.at 9 rfl) rfl rfl ?_
  refine r_aload_n (pc := 2075) (i := 0) (tLw30.at 10 rfl) rfl rfl ?_
  refine r_iload (pc := 2076) (i := 5) (tLw30.at 11 rfl) rfl ?_
  refine r_iconst (pc := 2078) (w := nI 1) (tLw30.at 12 rfl) (by decide) ?_
  first | refine r_iaddN (pc := 2079) (tLw30.at 13 rfl) ?_ | refine r_iadd (pc := 2079) (tLw30.at 13 rfl) ?_
  refine r_sld (pc := 2080) (tLw30.at 14 rfl) hbz rfl (by omega) hL ?_
  refine r_callV (M' := mX11_separate) (pc := 2081) (tLw30.at 15 rfl) ml_L_211 rfl mw_X11_separate ⟨by decide, by decide⟩ hfs rfl rfl hM2 rfl rfl (Nat.le_of_ble_eq_true rfl) (by show cells + mc + 0 ≤ 601024; omega) (by show slots + ms + 0 ≤ 7293034; omega) ?_
  rintro _ h2 top2 ⟨_, rfl, ⟨bb, rfl, hbb⟩, rfl, h110, Z', S', I2, hth⟩
  refine r_istore (pc := 2084) (i := 7) (tLw30.at 16 rfl) (by decide) ?_
  refine r_aload_n (pc := 2086) (i := 2) (tLw30.at 17 rfl) rfl rfl ?_
  refine r_callV (M' := mX11_thrown) (pc := 2087) (tLw30.at 18 rfl) ml_L_105 rfl mw_X11_thrown ⟨by decide, by decide⟩ I2.mo rfl rfl (c_thr I2) rfl rfl (Nat.le_of_ble_eq_true rfl) (by show cells + mc + 0 + 0 ≤ 601024; omega) (by show slots + ms + 0 + 0 ≤ 7293034; omega) ?_
  rintro _ _ _ ⟨rfl, rfl, rfl⟩
  refine r_iload (pc := 2090) (i := 6) (tLw30.at 19 rfl) rfl ?_
  refine r_icmp_eq (pc := 2092) 2097 (tLw30.at 20 rfl) (by decide) (fun _ => ?_) (fun c => absurd (by rw [hth]) c)
  refine r_iload (pc := 2097) (i := 6) (tLw30.at 23 rfl) rfl ?_
  refine r_if_ne (pc := 2099) 2114 (tLw30.at 24 rfl) (by decide) (fun _ => ?_) (fun c => ?_)
  · refine r_goto (pc := 2114) 2157 (tLw30.at 34 rfl) (by decide) ?_
    refine r_ls [some (.ref b), some (.ref x), some (.ref (x + 96)), some (.ref (x + 110)), some (.ref (x + 111)), some (.int (nI i)), some (.int (nI t)), some (.int bb), none] rfl (r_drop ?_)
    exact r_wide (k := cells + 1) (n := slots + 600) (by omega) (by omega) (hk _ _ _ _ I2)
  · have t0 : t = 0 := nI_z3 t ht3 c
    rw [← h110] at hfo
    refine r_aload_n (pc := 2102) (i := 3) (tLw30.at 25 rfl) rfl rfl ?_
    refine r_iconst (pc := 2103) (w := nI 0) (tLw30.at 26 rfl) (by decide) ?_
    refine r_lald (pc := 2104) (tLw30.at 27 rfl) hfo 0 rfl (by omega) (Nat.le_of_ble_eq_true rfl) ?_
    rw [hfy t0, ← hbb t0]
    refine r_iload (pc := 2105) (i := 7) (tLw30.at 28 rfl) rfl ?_
    refine r_i2l (pc := 2107) (tLw30.at 29 rfl) ?_
    refine r_lq (pc := 2108) 2114 (tLw30.at 30 rfl) (tLw30.at 31 rfl) (by decide) rfl ?_
    refine r_goto (pc := 2114) 2157 (tLw30.at 34 rfl) (by decide) ?_
    refine r_ls [some (.ref b), some (.ref x), some (.ref (x + 96)), some (.ref (x + 110)), some (.ref (x + 111)), some (.int (nI i)), some (.int (nI t)), some (.int bb), none] rfl (r_drop ?_)
    exact r_wide (k := cells + 1) (n := slots + 600) (by omega) (by omega) (hk _ _ _ _ I2)
theorem lw_31 (I : Inv v h top x Z S) (hbz : b < z0 v) (hi : i + 6 ≤ L) (hL : L ≤ 3072) (hc : cells + 1 ≤ 601024) (hs : slots + 600 ≤ 7293034) (hk : lwK v b L xs x i cells slots) : J v mL_law room_1 (lwQ2 b L xs lw_Z) (z0 v) cells slots h top 2117 (lwS b x i) [] := by
  obtain ⟨_, E, ⟨y, rfl⟩, hC, hM⟩ := op_refine I
  refine r_aload_n (pc := 2117) (i := 1) (tLw31.at 0 rfl) rfl rfl ?_
  refine r_callV (M' := mX10_refine) (pc := 2118) (tLw31.at 1 rfl) ml_L_212 rfl mw_X10_refine ⟨by decide, by decide⟩ I.1.1.1 rfl rfl hC rfl rfl (Nat.le_of_ble_eq_true rfl) (by show cells + 0 ≤ 601024; omega) (by show slots + 0 ≤ 7293034; omega) ?_
  rintro _ h1 top1 ⟨rfl, hE⟩
  obtain ⟨⟨fs, hfs⟩, hM2⟩ := hM h1 top1 hE
  refine r_aload_n (pc := 2121) (i := 2) (tLw31.at 2 rfl) rfl rfl ?_
  refine r_callV (M' := mX11_refine) (pc := 2122) (tLw31.at 3 rfl) ml_L_215 rfl mw_X11_refine ⟨by decide, by decide⟩ hfs rfl rfl hM2 rfl rfl (Nat.le_of_ble_eq_true rfl) (by show cells + 0 + 0 ≤ 601024; omega) (by show slots + 0 + 0 ≤ 7293034; omega) ?_
  rintro _ h2 top2 ⟨rfl, rfl, Z', S', I2⟩
  refine r_icmp_eq (pc := 2125) 2157 (tLw31.at 4 rfl) (by decide) (fun _ => ?_) (fun c => absurd rfl c)
  exact r_wide (k := cells + 1) (n := slots + 600) (by omega) (by omega) (hk _ _ _ _ I2)
theorem lw_32 (I : Inv v h top x Z S) (hbz : b < z0 v) (hi : i + 6 ≤ L) (hL : L ≤ 3072) (hc : cells + 1 ≤ 601024) (hs : slots + 600 ≤ 7293034) (hk : lwK v b L xs x i cells slots) : J v mL_law room_1 (lwQ2 b L xs lw_Z) (z0 v) cells slots h top 2130 (lwS b x i) [] := by
  obtain ⟨_, E, ⟨y, rfl⟩, hC, hM⟩ := op_undo I
  refine r_aload_n (pc := 2130) (i := 1) (tLw32.at 0 rfl) rfl rfl ?_
  refine r_callV (M' := mX10_undo) (pc := 2131) (tLw32.at 1 rfl) ml_L_216 rfl mw_X10_undo ⟨by decide, by decide⟩ I.1.1.1 rfl rfl hC rfl rfl (Nat.le_of_ble_eq_true rfl) (by show cells + 0 ≤ 601024; omega) (by show slots + 0 ≤ 7293034; omega) ?_
  rintro _ h1 top1 ⟨rfl, hE⟩
  obtain ⟨⟨fs, hfs⟩, hM2⟩ := hM h1 top1 hE
  refine r_aload_n (pc := 2134) (i := 2) (tLw32.at 2 rfl) rfl rfl ?_
  refine r_callV (M' := mX11_undo) (pc := 2135) (tLw32.at 3 rfl) ml_L_219 rfl mw_X11_undo ⟨by decide, by decide⟩ hfs rfl rfl hM2 rfl rfl (Nat.le_of_ble_eq_true rfl) (by show cells + 0 + 0 ≤ 601024; omega) (by show slots + 0 + 0 ≤ 7293034; omega) ?_
  rintro _ h2 top2 ⟨rfl, rfl, Z', S', I2⟩
  refine r_icmp_eq (pc := 2138) 2157 (tLw32.at 4 rfl) (by decide) (fun _ => ?_) (fun c => absurd rfl c)
  exact r_wide (k := cells + 1) (n := slots + 600) (by omega) (by omega) (hk _ _ _ _ I2)
theorem lw_33 (I : Inv v h top x Z S) (hbz : b < z0 v) (hi : i + 6 ≤ L) (hL : L ≤ 3072) (hc : cells + 1 ≤ 601024) (hs : slots + 600 ≤ 7293034) (hk : lwK v b L xs x i cells slots) : J v mL_law room_1 (lwQ2 b L xs lw_Z) (z0 v) cells slots h top 2143 (lwS b x i) [] := by
  obtain ⟨_, E, ⟨y, rfl⟩, hC, hM⟩ := op_checksum I
  refine r_aload_n (pc := 2143) (i := 1) (tLw33.at 0 rfl) rfl rfl ?_
  refine r_callV (M' := mX10_checksum) (pc := 2144) (tLw33.at 1 rfl) ml_L_220 rfl mw_X10_checksum ⟨by decide, by decide⟩ I.1.1.1 rfl rfl hC rfl rfl (Nat.le_of_ble_eq_true rfl) (by show cells + 0 ≤ 601024; omega) (by show slots + 0 ≤ 7293034; omega) ?_
  rintro _ h1 top1 ⟨rfl, hE⟩
  obtain ⟨⟨fs, hfs⟩, hM2⟩ := hM h1 top1 hE
  refine r_aload_n (pc := 2147) (i := 2) (tLw33.at 2 rfl) rfl rfl ?_
  refine r_callV (M' := mX11_checksum) (pc := 2148) (tLw33.at 3 rfl) ml_L_223 rfl mw_X11_checksum ⟨by decide, by decide⟩ hfs rfl rfl hM2 rfl rfl (Nat.le_of_ble_eq_true rfl) (by show cells + 0 + 0 ≤ 601024; omega) (by show slots + 0 + 0 ≤ 7293034; omega) ?_
  rintro _ h2 top2 ⟨rfl, rfl, Z', S', I2⟩
  refine r_lq (pc := 2151) 2157 (tLw33.at 4 rfl) (tLw33.at 5 rfl) (by decide) rfl ?_
  exact r_wide (k := cells + 1) (n := slots + 600) (by omega) (by omega) (hk _ _ _ _ I2)
end

