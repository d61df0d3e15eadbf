/-! ===== the law: the calls 9 to 16 ===== -/
section
variable {v : Ev} {h : Hp} {top x b L i cells slots : Nat} {xs : Nat → Int32} {Z : CS} {S : MS}
theorem lw_9 (I : Inv v h top x Z S) (hbz : b < z0 v) (hi : i + 6 ≤ L) (hL : L ≤ 3072) (hc : cells + 1 ≤ 601024) (hs : slots + 600 ≤ 7293034) (hk : lwK v b L xs x i cells slots) : J v mL_law room_1 (lwQ2 b L xs lw_Z) (z0 v) cells slots h top 640 (lwS b x i) [] := by
  obtain ⟨t, y, d, mc, ms, E, ⟨ht3, hd, hmc, hms⟩, hC, hM⟩ := op_hittingTime I (p := if xs (i + 3) = 0 then 0 else 1) (by split <;> omega) (xs (i + 1)) (xs (i + 2))
  refine r_aload_n (pc := 640) (i := 1) (tLw9.at 0 rfl) rfl rfl ?_
  refine r_aload_n (pc := 641) (i := 0) (tLw9.at 1 rfl) rfl rfl ?_
  refine r_iload (pc := 642) (i := 5) (tLw9.at 2 rfl) rfl ?_
  refine r_iconst (pc := 644) (w := nI 1) (tLw9.at 3 rfl) (by decide) ?_
  first | refine r_iaddN (pc := 645) (tLw9.at 4 rfl) ?_ | refine r_iadd (pc := 645) (tLw9.at 4 rfl) ?_
  refine r_sld (pc := 646) (tLw9.at 5 rfl) hbz rfl (by omega) hL ?_
  refine r_aload_n (pc := 647) (i := 0) (tLw9.at 6 rfl) rfl rfl ?_
  refine r_iload (pc := 648) (i := 5) (tLw9.at 7 rfl) rfl ?_
  refine r_iconst (pc := 650) (w := nI 2) (tLw9.at 8 rfl) (by decide) ?_
  first | refine r_iaddN (pc := 651) (tLw9.at 9 rfl) ?_ | refine r_iadd (pc := 651) (tLw9.at 9 rfl) ?_
  refine r_sld (pc := 652) (tLw9.at 10 rfl) hbz rfl (by omega) hL ?_
  refine r_aload_n (pc := 653) (i := 0) (tLw9.at 11 rfl) rfl rfl ?_
  refine r_iload (pc := 654) (i := 5) (tLw9.at 12 rfl) rfl ?_
  refine r_iconst (pc := 656) (w := nI 3) (tLw9.at 13 rfl) (by decide) ?_
  first | refine r_iaddN (pc := 657) (tLw9.at 14 rfl) ?_ | refine r_iadd (pc := 657) (tLw9.at 14 rfl) ?_
  refine r_sld (pc := 658) (tLw9.at 15 rfl) hbz rfl (by omega) hL ?_
  refine r_bool (pc := 659) (tLw9.at 16 rfl) (tLw9.at 17 rfl) (tLw9.at 18 rfl) (tLw9.at 19 rfl) ?_
  refine r_aload_n (pc := 667) (i := 3) (tLw9.at 20 rfl) rfl rfl ?_
  refine r_callSH (M' := mL_hittingTime) (pc := 668) (tLw9.at 21 rfl) ml_L_135 rfl mw_L_hittingTime ⟨by show d + 1 ≤ 2048; omega, by show 8 + (6 + 11) + 60 * d ≤ 84000; omega⟩ hC rfl rfl (Nat.le_of_ble_eq_true rfl) (by show cells + mc ≤ 601024; omega) (by show slots + ms ≤ 7293034; omega) ?_
  rintro _ h1 top1 ⟨rfl, hE, fo, hfo, hfy⟩
  obtain ⟨⟨fs, hfs⟩, hM2⟩ := hM h1 top1 hE
  refine r_istore (pc := 671) (i := 6) (tLw9.at 22 rfl) (by decide) ?_
  refine r_aload_n (pc := 673) (i := 2) (tLw9.at 23 rfl) rfl rfl ?_
  refine r_aload_n (pc := 674) (i := 0) (tLw9.at 24 rfl) rfl rfl ?_
  refine r_iload (pc := 675) (i := 5) (tLw9.at 25 rfl) rfl ?_
  refine r_iconst (pc := 677) (w := nI 1) (tLw9.at 26 rfl) (by decide) ?_
  first | refine r_iaddN (pc := 678) (tLw9.at 27 rfl) ?_ | refine r_iadd (pc := 678) (tLw9.at 27 rfl) ?_
  refine r_sld (pc := 679) (tLw9.at 28 rfl) hbz rfl (by omega) hL ?_
  refine r_aload_n (pc := 680) (i := 0) (tLw9.at 29 rfl) rfl rfl ?_
  refine r_iload (pc := 681) (i := 5) (tLw9.at 30 rfl) rfl ?_
  refine r_iconst (pc := 683) (w := nI 2) (tLw9.at 31 rfl) (by decide) ?_
  first | refine r_iaddN (pc := 684) (tLw9.at 32 rfl) ?_ | refine r_iadd (pc := 684) (tLw9.at 32 rfl) ?_
  refine r_sld (pc := 685) (tLw9.at 33 rfl) hbz rfl (by omega) hL ?_
  refine r_aload_n (pc := 686) (i := 0) (tLw9.at 34 rfl) rfl rfl ?_
  refine r_iload (pc := 687) (i := 5) (tLw9.at 35 rfl) rfl ?_
  refine r_iconst (pc := 689) (w := nI 3) (tLw9.at 36 rfl) (by decide) ?_
  first | refine r_iaddN (pc := 690) (tLw9.at 37 rfl) ?_ | refine r_iadd (pc := 690) (tLw9.at 37 rfl) ?_
  refine r_sld (pc := 691) (tLw9.at 38 rfl) hbz rfl (by omega) hL ?_
  refine r_bool (pc := 692) (tLw9.at 39 rfl) (tLw9.at 40 rfl) (tLw9.at 41 rfl) (tLw9.at 42 rfl) ?_
  refine r_callV (M' := mX11_hittingTime) (pc := 700) (tLw9.at 43 rfl) ml_L_137 rfl mw_X11_hittingTime ⟨by decide, by decide⟩ hfs rfl rfl hM2 rfl rfl (Nat.le_of_ble_eq_true rfl) (by show cells + mc + 0 ≤ 601024; omega) (by show slots + ms + 0 ≤ 7293034; omega) ?_
  rintro _ h2 top2 ⟨_, rfl, ⟨bb, rfl, hbb⟩, rfl, h110, Z', S', I2, hth⟩
  refine r_lstore (pc := 703) (i := 7) (tLw9.at 44 rfl) (by decide) ?_
  refine r_aload_n (pc := 705) (i := 2) (tLw9.at 45 rfl) rfl rfl ?_
  refine r_callV (M' := mX11_thrown) (pc := 706) (tLw9.at 46 rfl) ml_L_105 rfl mw_X11_thrown ⟨by decide, by decide⟩ I2.mo rfl rfl (c_thr I2) rfl rfl (Nat.le_of_ble_eq_true rfl) (by show cells + mc + 0 + 0 ≤ 601024; omega) (by show slots + ms + 0 + 0 ≤ 7293034; omega) ?_
  rintro _ _ _ ⟨rfl, rfl, rfl⟩
  refine r_iload (pc := 709) (i := 6) (tLw9.at 47 rfl) rfl ?_
  refine r_icmp_eq (pc := 711) 716 (tLw9.at 48 rfl) (by decide) (fun _ => ?_) (fun c => absurd (by rw [hth]) c)
  refine r_iload (pc := 716) (i := 6) (tLw9.at 51 rfl) rfl ?_
  refine r_if_ne (pc := 718) 732 (tLw9.at 52 rfl) (by decide) (fun _ => ?_) (fun c => ?_)
  · refine r_goto (pc := 732) 2157 (tLw9.at 61 rfl) (by decide) ?_
    refine r_ls [some (.ref b), some (.ref x), some (.ref (x + 96)), some (.ref (x + 110)), some (.ref (x + 111)), some (.int (nI i)), some (.int (nI t)), some (.long bb), none] rfl (r_drop ?_)
    exact r_wide (k := cells + 1) (n := slots + 600) (by omega) (by omega) (hk _ _ _ _ I2)
  · have t0 : t = 0 := nI_z3 t ht3 c
    rw [← h110] at hfo
    refine r_aload_n (pc := 721) (i := 3) (tLw9.at 53 rfl) rfl rfl ?_
    refine r_iconst (pc := 722) (w := nI 0) (tLw9.at 54 rfl) (by decide) ?_
    refine r_lald (pc := 723) (tLw9.at 55 rfl) hfo 0 rfl (by omega) (Nat.le_of_ble_eq_true rfl) ?_
    rw [hfy t0, ← hbb t0]
    refine r_lload (pc := 724) (i := 7) (tLw9.at 56 rfl) rfl ?_
    refine r_lq (pc := 726) 732 (tLw9.at 57 rfl) (tLw9.at 58 rfl) (by decide) rfl ?_
    refine r_goto (pc := 732) 2157 (tLw9.at 61 rfl) (by decide) ?_
    refine r_ls [some (.ref b), some (.ref x), some (.ref (x + 96)), some (.ref (x + 110)), some (.ref (x + 111)), some (.int (nI i)), some (.int (nI t)), some (.long bb), none] rfl (r_drop ?_)
    exact r_wide (k := cells + 1) (n := slots + 600) (by omega) (by omega) (hk _ _ _ _ I2)
theorem lw_10 (I : Inv v h top x Z S) (hbz : b < z0 v) (hi : i + 6 ≤ L) (hL : L ≤ 3072) (hc : cells + 1 ≤ 601024) (hs : slots + 600 ≤ 7293034) (hk : lwK v b L xs x i cells slots) : J v mL_law room_1 (lwQ2 b L xs lw_Z) (z0 v) cells slots h top 735 (lwS b x i) [] := by
  obtain ⟨t, y, d, mc, ms, E, ⟨ht3, hd, hmc, hms⟩, hC, hM⟩ := op_hittingCost I (p := if xs (i + 3) = 0 then 0 else 1) (by split <;> omega) (xs (i + 1)) (xs (i + 2))
  refine r_aload_n (pc := 735) (i := 1) (tLw10.at 0 rfl) rfl rfl ?_
  refine r_aload_n (pc := 736) (i := 0) (tLw10.at 1 rfl) rfl rfl ?_
  refine r_iload (pc := 737) (i := 5) (tLw10.at 2 rfl) rfl ?_
  refine r_iconst (pc := 739) (w := nI 1) (tLw10.at 3 rfl) (by decide) ?_
  first | refine r_iaddN (pc := 740) (tLw10.at 4 rfl) ?_ | refine r_iadd (pc := 740) (tLw10.at 4 rfl) ?_
  refine r_sld (pc := 741) (tLw10.at 5 rfl) hbz rfl (by omega) hL ?_
  refine r_aload_n (pc := 742) (i := 0) (tLw10.at 6 rfl) rfl rfl ?_
  refine r_iload (pc := 743) (i := 5) (tLw10.at 7 rfl) rfl ?_
  refine r_iconst (pc := 745) (w := nI 2) (tLw10.at 8 rfl) (by decide) ?_
  first | refine r_iaddN (pc := 746) (tLw10.at 9 rfl) ?_ | refine r_iadd (pc := 746) (tLw10.at 9 rfl) ?_
  refine r_sld (pc := 747) (tLw10.at 10 rfl) hbz rfl (by omega) hL ?_
  refine r_aload_n (pc := 748) (i := 0) (tLw10.at 11 rfl) rfl rfl ?_
  refine r_iload (pc := 749) (i := 5) (tLw10.at 12 rfl) rfl ?_
  refine r_iconst (pc := 751) (w := nI 3) (tLw10.at 13 rfl) (by decide) ?_
  first | refine r_iaddN (pc := 752) (tLw10.at 14 rfl) ?_ | refine r_iadd (pc := 752) (tLw10.at 14 rfl) ?_
  refine r_sld (pc := 753) (tLw10.at 15 rfl) hbz rfl (by omega) hL ?_
  refine r_bool (pc := 754) (tLw10.at 16 rfl) (tLw10.at 17 rfl) (tLw10.at 18 rfl) (tLw10.at 19 rfl) ?_
  refine r_aload_n (pc := 762) (i := 3) (tLw10.at 20 rfl) rfl rfl ?_
  refine r_callSH (M' := mL_hittingCost) (pc := 763) (tLw10.at 21 rfl) ml_L_138 rfl mw_L_hittingCost ⟨by show d + 1 ≤ 2048; omega, by show 8 + (6 + 11) + 60 * d ≤ 84000; omega⟩ hC rfl rfl (Nat.le_of_ble_eq_true rfl) (by show cells + mc ≤ 601024; omega) (by show slots + ms ≤ 7293034; omega) ?_
  rintro _ h1 top1 ⟨rfl, hE, fo, hfo, hfy⟩
  obtain ⟨⟨fs, hfs⟩, hM2⟩ := hM h1 top1 hE
  refine r_istore (pc := 766) (i := 6) (tLw10.at 22 rfl) (by decide) ?_
  refine r_aload_n (pc := 768) (i := 2) (tLw10.at 23 rfl) rfl rfl ?_
  refine r_aload_n (pc := 769) (i := 0) (tLw10.at 24 rfl) rfl rfl ?_
  refine r_iload (pc := 770) (i := 5) (tLw10.at 25 rfl) rfl ?_
  refine r_iconst (pc := 772) (w := nI 1) (tLw10.at 26 rfl) (by decide) ?_
  first | refine r_iaddN (pc := 773) (tLw10.at 27 rfl) ?_ | refine r_iadd (pc := 773) (tLw10.at 27 rfl) ?_
  refine r_sld (pc := 774) (tLw10.at 28 rfl) hbz rfl (by omega) hL ?_
  refine r_aload_n (pc := 775) (i := 0) (tLw10.at 29 rfl) rfl rfl ?_
  refine r_iload (pc := 776) (i := 5) (tLw10.at 30 rfl) rfl ?_
  refine r_iconst (pc := 778) (w := nI 2) (tLw10.at 31 rfl) (by decide) ?_
  first | refine r_iaddN (pc := 779) (tLw10.at 32 rfl) ?_ | refine r_iadd (pc := 779) (tLw10.at 32 rfl) ?_
  refine r_sld (pc := 780) (tLw10.at 33 rfl) hbz rfl (by omega) hL ?_
  refine r_aload_n (pc := 781) (i := 0) (tLw10.at 34 rfl) rfl rfl ?_
  refine r_iload (pc := 782) (i := 5) (tLw10.at 35 rfl) rfl ?_
  refine r_iconst (pc := 784) (w := nI 3) (tLw10.at 36 rfl) (by decide) ?_
  first | refine r_iaddN (pc := 785) (tLw10.at 37 rfl) ?_ | refine r_iadd (pc := 785) (tLw10.at 37 rfl) ?_
  refine r_sld (pc := 786) (tLw10.at 38 rfl) hbz rfl (by omega) hL ?_
  refine r_bool (pc := 787) (tLw10.at 39 rfl) (tLw10.at 40 rfl) (tLw10.at 41 rfl) (tLw10.at 42 rfl) ?_
  refine r_callV (M' := mX11_hittingCost) (pc := 795) (tLw10.at 43 rfl) ml_L_140 rfl mw_X11_hittingCost ⟨by decide, by decide⟩ hfs rfl rfl hM2 rfl rfl (Nat.le_of_ble_eq_true rfl) (by show cells + mc + 0 ≤ 601024; omega) (by show slots + ms + 0 ≤ 7293034; omega) ?_
  rintro _ h2 top2 ⟨_, rfl, ⟨bb, rfl, hbb⟩, rfl, h110, Z', S', I2, hth⟩
  refine r_lstore (pc := 798) (i := 7) (tLw10.at 44 rfl) (by decide) ?_
  refine r_aload_n (pc := 800) (i := 2) (tLw10.at 45 rfl) rfl rfl ?_
  refine r_callV (M' := mX11_thrown) (pc := 801) (tLw10.at 46 rfl) ml_L_105 rfl mw_X11_thrown ⟨by decide, by decide⟩ I2.mo rfl rfl (c_thr I2) rfl rfl (Nat.le_of_ble_eq_true rfl) (by show cells + mc + 0 + 0 ≤ 601024; omega) (by show slots + ms + 0 + 0 ≤ 7293034; omega) ?_
  rintro _ _ _ ⟨rfl, rfl, rfl⟩
  refine r_iload (pc := 804) (i := 6) (tLw10.at 47 rfl) rfl ?_
  refine r_icmp_eq (pc := 806) 811 (tLw10.at 48 rfl) (by decide) (fun _ => ?_) (fun c => absurd (by rw [hth]) c)
  refine r_iload (pc := 811) (i := 6) (tLw10.at 51 rfl) rfl ?_
  refine r_if_ne (pc := 813) 827 (tLw10.at 52 rfl) (by decide) (fun _ => ?_) (fun c => ?_)
  · refine r_goto (pc := 827) 2157 (tLw10.at 61 rfl) (by decide) ?_
    refine r_ls [some (.ref b), some (.ref x), some (.ref (x + 96)), some (.ref (x + 110)), some (.ref (x + 111)), some (.int (nI i)), some (.int (nI t)), some (.long bb), none] rfl (r_drop ?_)
    exact r_wide (k := cells + 1) (n := slots + 600) (by omega) (by omega) (hk _ _ _ _ I2)
  · have t0 : t = 0 := nI_z3 t ht3 c
    rw [← h110] at hfo
    refine r_aload_n (pc := 816) (i := 3) (tLw10.at 53 rfl) rfl rfl ?_
    refine r_iconst (pc := 817) (w := nI 0) (tLw10.at 54 rfl) (by decide) ?_
    refine r_lald (pc := 818) (tLw10.at 55 rfl) hfo 0 rfl (by omega) (Nat.le_of_ble_eq_true rfl) ?_
    rw [hfy t0, ← hbb t0]
    refine r_lload (pc := 819) (i := 7) (tLw10.at 56 rfl) rfl ?_
    refine r_lq (pc := 821) 827 (tLw10.at 57 rfl) (tLw10.at 58 rfl) (by decide) rfl ?_
    refine r_goto (pc := 827) 2157 (tLw10.at 61 rfl) (by decide) ?_
    refine r_ls [some (.ref b), some (.ref x), some (.ref (x + 96)), some (.ref (x + 110)), some (.ref (x + 111)), some (.int (nI i)), some (.int (nI t)), some (.long bb), none] rfl (r_drop ?_)
    exact r_wide (k := cells + 1) (n := slots + 600) (by omega) (by omega) (hk _ _ _ _ I2)
theorem lw_11 (I : Inv v h top x Z S) (hbz : b < z0 v) (hi : i + 6 ≤ L) (hL : L ≤ 3072) (hc : cells + 1 ≤ 601024) (hs : slots + 600 ≤ 7293034) (hk : lwK v b L xs x i cells slots) : J v mL_law room_1 (lwQ2 b L xs lw_Z) (z0 v) cells slots h top 830 (lwS b x i) [] := by
  obtain ⟨t, y, d, mc, ms, E, ⟨ht3, hd, hmc, hms⟩, hC, hM⟩ := op_commuteTime I (p := if xs (i + 3) = 0 then 0 else 1) (by split <;> omega) (xs (i + 1)) (xs (i + 2))
  refine r_aload_n (pc := 830) (i := 1) (tLw11.at 0 rfl) rfl rfl ?_
  refine r_aload_n (pc := 831) (i := 0) (tLw11.at 1 rfl) rfl rfl ?_
  refine r_iload (pc := 832) (i := 5) (tLw11.at 2 rfl) rfl ?_
  refine r_iconst (pc := 834) (w := nI 1) (tLw11.at 3 rfl) (by decide) ?_
  first | refine r_iaddN (pc := 835) (tLw11.at 4 rfl) ?_ | refine r_iadd (pc := 835) (tLw11.at 4 rfl) ?_
  refine r_sld (pc := 836) (tLw11.at 5 rfl) hbz rfl (by omega) hL ?_
  refine r_aload_n (pc := 837) (i := 0) (tLw11.at 6 rfl) rfl rfl ?_
  refine r_iload (pc := 838) (i := 5) (tLw11.at 7 rfl) rfl ?_
  refine r_iconst (pc := 840) (w := nI 2) (tLw11.at 8 rfl) (by decide) ?_
  first | refine r_iaddN (pc := 841) (tLw11.at 9 rfl) ?_ | refine r_iadd (pc := 841) (tLw11.at 9 rfl) ?_
  refine r_sld (pc := 842) (tLw11.at 10 rfl) hbz rfl (by omega) hL ?_
  refine r_aload_n (pc := 843) (i := 0) (tLw11.at 11 rfl) rfl rfl ?_
  refine r_iload (pc := 844) (i := 5) (tLw11.at 12 rfl) rfl ?_
  refine r_iconst (pc := 846) (w := nI 3) (tLw11.at 13 rfl) (by decide) ?_
  first | refine r_iaddN (pc := 847) (tLw11.at 14 rfl) ?_ | refine r_iadd (pc := 847) (tLw11.at 14 rfl) ?_
  refine r_sld (pc := 848) (tLw11.at 15 rfl) hbz rfl (by omega) hL ?_
  refine r_bool (pc := 849) (tLw11.at 16 rfl) (tLw11.at 17 rfl) (tLw11.at 18 rfl) (tLw11.at 19 rfl) ?_
  refine r_aload_n (pc := 857) (i := 3) (tLw11.at 20 rfl) rfl rfl ?_
  refine r_callSH (M' := mL_commuteTime) (pc := 858) (tLw11.at 21 rfl) ml_L_141 rfl mw_L_commuteTime ⟨by show d + 1 ≤ 2048; omega, by show 8 + (6 + 11) + 60 * d ≤ 84000; omega⟩ hC rfl rfl (Nat.le_of_ble_eq_true rfl) (by show cells + mc ≤ 601024; omega) (by show slots + ms ≤ 7293034; omega) ?_
  rintro _ h1 top1 ⟨rfl, hE, fo, hfo, hfy⟩
  obtain ⟨⟨fs, hfs⟩, hM2⟩ := hM h1 top1 hE
  refine r_istore (pc := 861) (i := 6) (tLw11.at 22 rfl) (by decide) ?_
  refine r_aload_n (pc := 863) (i := 2) (tLw11.at 23 rfl) rfl rfl ?_
  refine r_aload_n (pc := 864) (i := 0) (tLw11.at 24 rfl) rfl rfl ?_
  refine r_iload (pc := 865) (i := 5) (tLw11.at 25 rfl) rfl ?_
  refine r_iconst (pc := 867) (w := nI 1) (tLw11.at 26 rfl) (by decide) ?_
  first | refine r_iaddN (pc := 868) (tLw11.at 27 rfl) ?_ | refine r_iadd (pc := 868) (tLw11.at 27 rfl) ?_
  refine r_sld (pc := 869) (tLw11.at 28 rfl) hbz rfl (by omega) hL ?_
  refine r_aload_n (pc := 870) (i := 0) (tLw11.at 29 rfl) rfl rfl ?_
  refine r_iload (pc := 871) (i := 5) (tLw11.at 30 rfl) rfl ?_
  refine r_iconst (pc := 873) (w := nI 2) (tLw11.at 31 rfl) (by decide) ?_
  first | refine r_iaddN (pc := 874) (tLw11.at 32 rfl) ?_ | refine r_iadd (pc := 874) (tLw11.at 32 rfl) ?_
  refine r_sld (pc := 875) (tLw11.at 33 rfl) hbz rfl (by omega) hL ?_
  refine r_aload_n (pc := 876) (i := 0) (tLw11.at 34 rfl) rfl rfl ?_
  refine r_iload (pc := 877) (i := 5) (tLw11.at 35 rfl) rfl ?_
  refine r_iconst (pc := 879) (w := nI 3) (tLw11.at 36 rfl) (by decide) ?_
  first | refine r_iaddN (pc := 880) (tLw11.at 37 rfl) ?_ | refine r_iadd (pc := 880) (tLw11.at 37 rfl) ?_
  refine r_sld (pc := 881) (tLw11.at 38 rfl) hbz rfl (by omega) hL ?_
  refine r_bool (pc := 882) (tLw11.at 39 rfl) (tLw11.at 40 rfl) (tLw11.at 41 rfl) (tLw11.at 42 rfl) ?_
  refine r_callV (M' := mX11_commuteTime) (pc := 890) (tLw11.at 43 rfl) ml_L_143 rfl mw_X11_commuteTime ⟨by decide, by decide⟩ hfs rfl rfl hM2 rfl rfl (Nat.le_of_ble_eq_true rfl) (by show cells + mc + 0 ≤ 601024; omega) (by show slots + ms + 0 ≤ 7293034; omega) ?_
  rintro _ h2 top2 ⟨_, rfl, ⟨bb, rfl, hbb⟩, rfl, h110, Z', S', I2, hth⟩
  refine r_lstore (pc := 893) (i := 7) (tLw11.at 44 rfl) (by decide) ?_
  refine r_aload_n (pc := 895) (i := 2) (tLw11.at 45 rfl) rfl rfl ?_
  refine r_callV (M' := mX11_thrown) (pc := 896) (tLw11.at 46 rfl) ml_L_105 rfl mw_X11_thrown ⟨by decide, by decide⟩ I2.mo rfl rfl (c_thr I2) rfl rfl (Nat.le_of_ble_eq_true rfl) (by show cells + mc + 0 + 0 ≤ 601024; omega) (by show slots + ms + 0 + 0 ≤ 7293034; omega) ?_
  rintro _ _ _ ⟨rfl, rfl, rfl⟩
  refine r_iload (pc := 899) (i := 6) (tLw11.at 47 rfl) rfl ?_
  refine r_icmp_eq (pc := 901) 906 (tLw11.at 48 rfl) (by decide) (fun _ => ?_) (fun c => absurd (by rw [hth]) c)
  refine r_iload (pc := 906) (i := 6) (tLw11.at 51 rfl) rfl ?_
  refine r_if_ne (pc := 908) 922 (tLw11.at 52 rfl) (by decide) (fun _ => ?_) (fun c => ?_)
  · refine r_goto (pc := 922) 2157 (tLw11.at 61 rfl) (by decide) ?_
    refine r_ls [some (.ref b), some (.ref x), some (.ref (x + 96)), some (.ref (x + 110)), some (.ref (x + 111)), some (.int (nI i)), some (.int (nI t)), some (.long bb), none] rfl (r_drop ?_)
    exact r_wide (k := cells + 1) (n := slots + 600) (by omega) (by omega) (hk _ _ _ _ I2)
  · have t0 : t = 0 := nI_z3 t ht3 c
    rw [← h110] at hfo
    refine r_aload_n (pc := 911) (i := 3) (tLw11.at 53 rfl) rfl rfl ?_
    refine r_iconst (pc := 912) (w := nI 0) (tLw11.at 54 rfl) (by decide) ?_
    refine r_lald (pc := 913) (tLw11.at 55 rfl) hfo 0 rfl (by omega) (Nat.le_of_ble_eq_true rfl) ?_
    rw [hfy t0, ← hbb t0]
    refine r_lload (pc := 914) (i := 7) (tLw11.at 56 rfl) rfl ?_
    refine r_lq (pc := 916) 922 (tLw11.at 57 rfl) (tLw11.at 58 rfl) (by decide) rfl ?_
    refine r_goto (pc := 922) 2157 (tLw11.at 61 rfl) (by decide) ?_
    refine r_ls [some (.ref b), some (.ref x), some (.ref (x + 96)), some (.ref (x + 110)), some (.ref (x + 111)), some (.int (nI i)), some (.int (nI t)), some (.long bb), none] rfl (r_drop ?_)
    exact r_wide (k := cells + 1) (n := slots + 600) (by omega) (by omega) (hk _ _ _ _ I2)
theorem lw_12 (I : Inv v h top x Z S) (hbz : b < z0 v) (hi : i + 6 ≤ L) (hL : L ≤ 3072) (hc : cells + 1 ≤ 601024) (hs : slots + 600 ≤ 7293034) (hk : lwK v b L xs x i cells slots) : J v mL_law room_1 (lwQ2 b L xs lw_Z) (z0 v) cells slots h top 925 (lwS b x i) [] := by
  obtain ⟨t, y, d, mc, ms, E, ⟨ht3, hd, hmc, hms⟩, hC, hM⟩ := op_resistance I (p := if xs (i + 3) = 0 then 0 else 1) (by split <;> omega) (xs (i + 1)) (xs (i + 2))
  refine r_aload_n (pc := 925) (i := 1) (tLw12.at 0 rfl) rfl rfl ?_
  refine r_aload_n (pc := 926) (i := 0) (tLw12.at 1 rfl) rfl rfl ?_
  refine r_iload (pc := 927) (i := 5) (tLw12.at 2 rfl) rfl ?_
  refine r_iconst (pc := 929) (w := nI 1) (tLw12.at 3 rfl) (by decide) ?_
  first | refine r_iaddN (pc := 930) (tLw12.at 4 rfl) ?_ | refine r_iadd (pc := 930) (tLw12.at 4 rfl) ?_
  refine r_sld (pc := 931) (tLw12.at 5 rfl) hbz rfl (by omega) hL ?_
  refine r_aload_n (pc := 932) (i := 0) (tLw12.at 6 rfl) rfl rfl ?_
  refine r_iload (pc := 933) (i := 5) (tLw12.at 7 rfl) rfl ?_
  refine r_iconst (pc := 935) (w := nI 2) (tLw12.at 8 rfl) (by decide) ?_
  first | refine r_iaddN (pc := 936) (tLw12.at 9 rfl) ?_ | refine r_iadd (pc := 936) (tLw12.at 9 rfl) ?_
  refine r_sld (pc := 937) (tLw12.at 10 rfl) hbz rfl (by omega) hL ?_
  refine r_aload_n (pc := 938) (i := 0) (tLw12.at 11 rfl) rfl rfl ?_
  refine r_iload (pc := 939) (i := 5) (tLw12.at 12 rfl) rfl ?_
  refine r_iconst (pc := 941) (w := nI 3) (tLw12.at 13 rfl) (by decide) ?_
  first | refine r_iaddN (pc := 942) (tLw12.at 14 rfl) ?_ | refine r_iadd (pc := 942) (tLw12.at 14 rfl) ?_
  refine r_sld (pc := 943) (tLw12.at 15 rfl) hbz rfl (by omega) hL ?_
  refine r_bool (pc := 944) (tLw12.at 16 rfl) (tLw12.at 17 rfl) (tLw12.at 18 rfl) (tLw12.at 19 rfl) ?_
  refine r_aload_n (pc := 952) (i := 3) (tLw12.at 20 rfl) rfl rfl ?_
  refine r_callSH (M' := mL_resistance) (pc := 953) (tLw12.at 21 rfl) ml_L_144 rfl mw_L_resistance ⟨by show d + 1 ≤ 2048; omega, by show 8 + (6 + 11) + 60 * d ≤ 84000; omega⟩ hC rfl rfl (Nat.le_of_ble_eq_true rfl) (by show cells + mc ≤ 601024; omega) (by show slots + ms ≤ 7293034; omega) ?_
  rintro _ h1 top1 ⟨rfl, hE, fo, hfo, hfy⟩
  obtain ⟨⟨fs, hfs⟩, hM2⟩ := hM h1 top1 hE
  refine r_istore (pc := 956) (i := 6) (tLw12.at 22 rfl) (by decide) ?_
  refine r_aload_n (pc := 958) (i := 2) (tLw12.at 23 rfl) rfl rfl ?_
  refine r_aload_n (pc := 959) (i := 0) (tLw12.at 24 rfl) rfl rfl ?_
  refine r_iload (pc := 960) (i := 5) (tLw12.at 25 rfl) rfl ?_
  refine r_iconst (pc := 962) (w := nI 1) (tLw12.at 26 rfl) (by decide) ?_
  first | refine r_iaddN (pc := 963) (tLw12.at 27 rfl) ?_ | refine r_iadd (pc := 963) (tLw12.at 27 rfl) ?_
  refine r_sld (pc := 964) (tLw12.at 28 rfl) hbz rfl (by omega) hL ?_
  refine r_aload_n (pc := 965) (i := 0) (tLw12.at 29 rfl) rfl rfl ?_
  refine r_iload (pc := 966) (i := 5) (tLw12.at 30 rfl) rfl ?_
  refine r_iconst (pc := 968) (w := nI 2) (tLw12.at 31 rfl) (by decide) ?_
  first | refine r_iaddN (pc := 969) (tLw12.at 32 rfl) ?_ | refine r_iadd (pc := 969) (tLw12.at 32 rfl) ?_
  refine r_sld (pc := 970) (tLw12.at 33 rfl) hbz rfl (by omega) hL ?_
  refine r_aload_n (pc := 971) (i := 0) (tLw12.at 34 rfl) rfl rfl ?_
  refine r_iload (pc := 972) (i := 5) (tLw12.at 35 rfl) rfl ?_
  refine r_iconst (pc := 974) (w := nI 3) (tLw12.at 36 rfl) (by decide) ?_
  first | refine r_iaddN (pc := 975) (tLw12.at 37 rfl) ?_ | refine r_iadd (pc := 975) (tLw12.at 37 rfl) ?_
  refine r_sld (pc := 976) (tLw12.at 38 rfl) hbz rfl (by omega) hL ?_
  refine r_bool (pc := 977) (tLw12.at 39 rfl) (tLw12.at 40 rfl) (tLw12.at 41 rfl) (tLw12.at 42 rfl) ?_
  refine r_callV (M' := mX11_resistance) (pc := 985) (tLw12.at 43 rfl) ml_L_146 rfl mw_X11_resistance ⟨by decide, by decide⟩ hfs rfl rfl hM2 rfl rfl (Nat.le_of_ble_eq_true rfl) (by show cells + mc + 0 ≤ 601024; omega) (by show slots + ms + 0 ≤ 7293034; omega) ?_
  rintro _ h2 top2 ⟨_, rfl, ⟨bb, rfl, hbb⟩, rfl, h110, Z', S', I2, hth⟩
  refine r_lstore (pc := 988) (i := 7) (tLw12.at 44 rfl) (by decide) ?_
  refine r_aload_n (pc := 990) (i := 2) (tLw12.at 45 rfl) rfl rfl ?_
  refine r_callV (M' := mX11_thrown) (pc := 991) (tLw12.at 46 rfl) ml_L_105 rfl mw_X11_thrown ⟨by decide, by decide⟩ I2.mo rfl rfl (c_thr I2) rfl rfl (Nat.le_of_ble_eq_true rfl) (by show cells + mc + 0 + 0 ≤ 601024; omega) (by show slots + ms + 0 + 0 ≤ 7293034; omega) ?_
  rintro _ _ _ ⟨rfl, rfl, rfl⟩
  refine r_iload (pc := 994) (i := 6) (tLw12.at 47 rfl) rfl ?_
  refine r_icmp_eq (pc := 996) 1001 (tLw12.at 48 rfl) (by decide) (fun _ => ?_) (fun c => absurd (by rw [hth]) c)
  refine r_iload (pc := 1001) (i := 6) (tLw12.at 51 rfl) rfl ?_
  refine r_if_ne (pc := 1003) 1017 (tLw12.at 52 rfl) (by decide) (fun _ => ?_) (fun c => ?_)
  · refine r_goto (pc := 1017) 2157 (tLw12.at 61 rfl) (by decide) ?_
    refine r_ls [some (.ref b), some (.ref x), some (.ref (x + 96)), some (.ref (x + 110)), some (.ref (x + 111)), some (.int (nI i)), some (.int (nI t)), some (.long bb), none] rfl (r_drop ?_)
    exact r_wide (k := cells + 1) (n := slots + 600) (by omega) (by omega) (hk _ _ _ _ I2)
  · have t0 : t = 0 := nI_z3 t ht3 c
    rw [← h110] at hfo
    refine r_aload_n (pc := 1006) (i := 3) (tLw12.at 53 rfl) rfl rfl ?_
    refine r_iconst (pc := 1007) (w := nI 0) (tLw12.at 54 rfl) (by decide) ?_
    refine r_lald (pc := 1008) (tLw12.at 55 rfl) hfo 0 rfl (by omega) (Nat.le_of_ble_eq_true rfl) ?_
    rw [hfy t0, ← hbb t0]
    refine r_lload (pc := 1009) (i := 7) (tLw12.at 56 rfl) rfl ?_
    refine r_lq (pc := 1011) 1017 (tLw12.at 57 rfl) (tLw12.at 58 rfl) (by decide) rfl ?_
    refine r_goto (pc := 1017) 2157 (tLw12.at 61 rfl) (by decide) ?_
    refine r_ls [some (.ref b), some (.ref x), some (.ref (x + 96)), some (.ref (x + 110)), some (.ref (x + 111)), some (.int (nI i)), some (.int (nI t)), some (.long bb), none] rfl (r_drop ?_)
    exact r_wide (k := cells + 1) (n := slots + 600) (by omega) (by omega) (hk _ _ _ _ I2)
theorem lw_13 (I : Inv v h top x Z S) (hbz : b < z0 v) (hi : i + 6 ≤ L) (hL : L ≤ 3072) (hc : cells + 1 ≤ 601024) (hs : slots + 600 ≤ 7293034) (hk : lwK v b L xs x i cells slots) : J v mL_law room_1 (lwQ2 b L xs lw_Z) (z0 v) cells slots h top 1020 (lwS b x i) [] := by
  obtain ⟨_, E, ⟨y, rfl⟩, hC, hM⟩ := op_trees I
  refine r_aload_n (pc := 1020) (i := 1) (tLw13.at 0 rfl) rfl rfl ?_
  refine r_callV (M' := mX10_trees) (pc := 1021) (tLw13.at 1 rfl) ml_L_147 rfl mw_X10_trees ⟨by decide, by decide⟩ I.1.1.1 rfl rfl hC rfl rfl (Nat.le_of_ble_eq_true rfl) (by show cells + 0 ≤ 601024; omega) (by show slots + 0 ≤ 7293034; omega) ?_
  rintro _ h1 top1 ⟨rfl, hE⟩
  obtain ⟨⟨fs, hfs⟩, hM2⟩ := hM h1 top1 hE
  refine r_aload_n (pc := 1024) (i := 2) (tLw13.at 2 rfl) rfl rfl ?_
  refine r_callV (M' := mX11_trees) (pc := 1025) (tLw13.at 3 rfl) ml_L_151 rfl mw_X11_trees ⟨by decide, by decide⟩ hfs rfl rfl hM2 rfl rfl (Nat.le_of_ble_eq_true rfl) (by show cells + 0 + 0 ≤ 601024; omega) (by show slots + 0 + 0 ≤ 7293034; omega) ?_
  rintro _ h2 top2 ⟨rfl, rfl, Z', S', I2⟩
  refine r_lq (pc := 1028) 2157 (tLw13.at 4 rfl) (tLw13.at 5 rfl) (by decide) rfl ?_
  exact r_wide (k := cells + 1) (n := slots + 600) (by omega) (by omega) (hk _ _ _ _ I2)
theorem lw_14 (I : Inv v h top x Z S) (hbz : b < z0 v) (hi : i + 6 ≤ L) (hL : L ≤ 3072) (hc : cells + 1 ≤ 601024) (hs : slots + 600 ≤ 7293034) (hk : lwK v b L xs x i cells slots) : J v mL_law room_1 (lwQ2 b L xs lw_Z) (z0 v) cells slots h top 1034 (lwS b x i) [] := by
  obtain ⟨_, E, ⟨y, rfl⟩, hC, hM⟩ := op_absorbing I
  refine r_aload_n (pc := 1034) (i := 1) (tLw14.at 0 rfl) rfl rfl ?_
  refine r_callV (M' := mX10_absorbing) (pc := 1035) (tLw14.at 1 rfl) ml_L_152 rfl mw_X10_absorbing ⟨by decide, by decide⟩ I.1.1.1 rfl rfl hC rfl rfl (Nat.le_of_ble_eq_true rfl) (by show cells + 0 ≤ 601024; omega) (by show slots + 0 ≤ 7293034; omega) ?_
  rintro _ h1 top1 ⟨rfl, hE⟩
  obtain ⟨⟨fs, hfs⟩, hM2⟩ := hM h1 top1 hE
  refine r_aload_n (pc := 1038) (i := 2) (tLw14.at 2 rfl) rfl rfl ?_
  refine r_callV (M' := mX11_absorbing) (pc := 1039) (tLw14.at 3 rfl) ml_L_155 rfl mw_X11_absorbing ⟨by decide, by decide⟩ hfs rfl rfl hM2 rfl rfl (Nat.le_of_ble_eq_true rfl) (by show cells + 0 + 0 ≤ 601024; omega) (by show slots + 0 + 0 ≤ 7293034; omega) ?_
  rintro _ h2 top2 ⟨rfl, rfl, Z', S', I2⟩
  refine r_icmp_eq (pc := 1042) 2157 (tLw14.at 4 rfl) (by decide) (fun _ => ?_) (fun c => absurd rfl c)
  exact r_wide (k := cells + 1) (n := slots + 600) (by omega) (by omega) (hk _ _ _ _ I2)
theorem lw_15 (I : Inv v h top x Z S) (hbz : b < z0 v) (hi : i + 6 ≤ L) (hL : L ≤ 3072) (hc : cells + 1 ≤ 601024) (hs : slots + 600 ≤ 7293034) (hk : lwK v b L xs x i cells slots) : J v mL_law room_1 (lwQ2 b L xs lw_Z) (z0 v) cells slots h top 1047 (lwS b x i) [] := by
  obtain ⟨t, y, d, mc, ms, E, ⟨ht3, hd, hmc, hms⟩, hC, hM⟩ := op_absorption I (p := if xs (i + 3) = 0 then 0 else 1) (by split <;> omega) (xs (i + 1)) (xs (i + 2))
  refine r_aload_n (pc := 1047) (i := 1) (tLw15.at 0 rfl) rfl rfl ?_
  refine r_aload_n (pc := 1048) (i := 0) (tLw15.at 1 rfl) rfl rfl ?_
  refine r_iload (pc := 1049) (i := 5) (tLw15.at 2 rfl) rfl ?_
  refine r_iconst (pc := 1051) (w := nI 1) (tLw15.at 3 rfl) (by decide) ?_
  first | refine r_iaddN (pc := 1052) (tLw15.at 4 rfl) ?_ | refine r_iadd (pc := 1052) (tLw15.at 4 rfl) ?_
  refine r_sld (pc := 1053) (tLw15.at 5 rfl) hbz rfl (by omega) hL ?_
  refine r_aload_n (pc := 1054) (i := 0) (tLw15.at 6 rfl) rfl rfl ?_
  refine r_iload (pc := 1055) (i := 5) (tLw15.at 7 rfl) rfl ?_
  refine r_iconst (pc := 1057) (w := nI 2) (tLw15.at 8 rfl) (by decide) ?_
  first | refine r_iaddN (pc := 1058) (tLw15.at 9 rfl) ?_ | refine r_iadd (pc := 1058) (tLw15.at 9 rfl) ?_
  refine r_sld (pc := 1059) (tLw15.at 10 rfl) hbz rfl (by omega) hL ?_
  refine r_aload_n (pc := 1060) (i := 0) (tLw15.at 11 rfl) rfl rfl ?_
  refine r_iload (pc := 1061) (i := 5) (tLw15.at 12 rfl) rfl ?_
  refine r_iconst (pc := 1063) (w := nI 3) (tLw15.at 13 rfl) (by decide) ?_
  first | refine r_iaddN (pc := 1064) (tLw15.at 14 rfl) ?_ | refine r_iadd (pc := 1064) (tLw15.at 14 rfl) ?_
  refine r_sld (pc := 1065) (tLw15.at 15 rfl) hbz rfl (by omega) hL ?_
  refine r_bool (pc := 1066) (tLw15.at 16 rfl) (tLw15.at 17 rfl) (tLw15.at 18 rfl) (tLw15.at 19 rfl) ?_
  refine r_aload_n (pc := 1074) (i := 3) (tLw15.at 20 rfl) rfl rfl ?_
  refine r_callSH (M' := mL_absorption) (pc := 1075) (tLw15.at 21 rfl) ml_L_156 rfl mw_L_absorption ⟨by show d + 1 ≤ 2048; omega, by show 8 + (6 + 11) + 60 * d ≤ 84000; omega⟩ hC rfl rfl (Nat.le_of_ble_eq_true rfl) (by show cells + mc ≤ 601024; omega) (by show slots + ms ≤ 7293034; omega) ?_
  rintro _ h1 top1 ⟨rfl, hE, fo, hfo, hfy⟩
  obtain ⟨⟨fs, hfs⟩, hM2⟩ := hM h1 top1 hE
  refine r_istore (pc := 1078) (i := 6) (tLw15.at 22 rfl) (by decide) ?_
  refine r_aload_n (pc := 1080) (i := 2) (tLw15.at 23 rfl) rfl rfl ?_
  refine r_aload_n (pc := 1081) (i := 0) (tLw15.at 24 rfl) rfl rfl ?_
  refine r_iload (pc := 1082) (i := 5) (tLw15.at 25 rfl) rfl ?_
  refine r_iconst (pc := 1084) (w := nI 1) (tLw15.at 26 rfl) (by decide) ?_
  first | refine r_iaddN (pc := 1085) (tLw15.at 27 rfl) ?_ | refine r_iadd (pc := 1085) (tLw15.at 27 rfl) ?_
  refine r_sld (pc := 1086) (tLw15.at 28 rfl) hbz rfl (by omega) hL ?_
  refine r_aload_n (pc := 1087) (i := 0) (tLw15.at 29 rfl) rfl rfl ?_
  refine r_iload (pc := 1088) (i := 5) (tLw15.at 30 rfl) rfl ?_
  refine r_iconst (pc := 1090) (w := nI 2) (tLw15.at 31 rfl) (by decide) ?_
  first | refine r_iaddN (pc := 1091) (tLw15.at 32 rfl) ?_ | refine r_iadd (pc := 1091) (tLw15.at 32 rfl) ?_
  refine r_sld (pc := 1092) (tLw15.at 33 rfl) hbz rfl (by omega) hL ?_
  refine r_aload_n (pc := 1093) (i := 0) (tLw15.at 34 rfl) rfl rfl ?_
  refine r_iload (pc := 1094) (i := 5) (tLw15.at 35 rfl) rfl ?_
  refine r_iconst (pc := 1096) (w := nI 3) (tLw15.at 36 rfl) (by decide) ?_
  first | refine r_iaddN (pc := 1097) (tLw15.at 37 rfl) ?_ | refine r_iadd (pc := 1097) (tLw15.at 37 rfl) ?_
  refine r_sld (pc := 1098) (tLw15.at 38 rfl) hbz rfl (by omega) hL ?_
  refine r_bool (pc := 1099) (tLw15.at 39 rfl) (tLw15.at 40 rfl) (tLw15.at 41 rfl) (tLw15.at 42 rfl) ?_
  refine r_callV (M' := mX11_absorption) (pc := 1107) (tLw15.at 43 rfl) ml_L_158 rfl mw_X11_absorption ⟨by decide, by decide⟩ hfs rfl rfl hM2 rfl rfl (Nat.le_of_ble_eq_true rfl) (by show cells + mc + 0 ≤ 601024; omega) (by show slots + ms + 0 ≤ 7293034; omega) ?_
  rintro _ h2 top2 ⟨_, rfl, ⟨bb, rfl, hbb⟩, rfl, h110, Z', S', I2, hth⟩
  refine r_lstore (pc := 1110) (i := 7) (tLw15.at 44 rfl) (by decide) ?_
  refine r_aload_n (pc := 1112) (i := 2) (tLw15.at 45 rfl) rfl rfl ?_
  refine r_callV (M' := mX11_thrown) (pc := 1113) (tLw15.at 46 rfl) ml_L_105 rfl mw_X11_thrown ⟨by decide, by decide⟩ I2.mo rfl rfl (c_thr I2) rfl rfl (Nat.le_of_ble_eq_true rfl) (by show cells + mc + 0 + 0 ≤ 601024; omega) (by show slots + ms + 0 + 0 ≤ 7293034; omega) ?_
  rintro _ _ _ ⟨rfl, rfl, rfl⟩
  refine r_iload (pc := 1116) (i := 6) (tLw15.at 47 rfl) rfl ?_
  refine r_icmp_eq (pc := 1118) 1123 (tLw15.at 48 rfl) (by decide) (fun _ => ?_) (fun c => absurd (by rw [hth]) c)
  refine r_iload (pc := 1123) (i := 6) (tLw15.at 51 rfl) rfl ?_
  refine r_if_ne (pc := 1125) 1139 (tLw15.at 52 rfl) (by decide) (fun _ => ?_) (fun c => ?_)
  · refine r_goto (pc := 1139) 2157 (tLw15.at 61 rfl) (by decide) ?_
    refine r_ls [some (.ref b), some (.ref x), some (.ref (x + 96)), some (.ref (x + 110)), some (.ref (x + 111)), some (.int (nI i)), some (.int (nI t)), some (.long bb), none] rfl (r_drop ?_)
    exact r_wide (k := cells + 1) (n := slots + 600) (by omega) (by omega) (hk _ _ _ _ I2)
  · have t0 : t = 0 := nI_z3 t ht3 c
    rw [← h110] at hfo
    refine r_aload_n (pc := 1128) (i := 3) (tLw15.at 53 rfl) rfl rfl ?_
    refine r_iconst (pc := 1129) (w := nI 0) (tLw15.at 54 rfl) (by decide) ?_
    refine r_lald (pc := 1130) (tLw15.at 55 rfl) hfo 0 rfl (by omega) (Nat.le_of_ble_eq_true rfl) ?_
    rw [hfy t0, ← hbb t0]
    refine r_lload (pc := 1131) (i := 7) (tLw15.at 56 rfl) rfl ?_
    refine r_lq (pc := 1133) 1139 (tLw15.at 57 rfl) (tLw15.at 58 rfl) (by decide) rfl ?_
    refine r_goto (pc := 1139) 2157 (tLw15.at 61 rfl) (by decide) ?_
    refine r_ls [some (.ref b), some (.ref x), some (.ref (x + 96)), some (.ref (x + 110)), some (.ref (x + 111)), some (.int (nI i)), some (.int (nI t)), some (.long bb), none] rfl (r_drop ?_)
    exact r_wide (k := cells + 1) (n := slots + 600) (by omega) (by omega) (hk _ _ _ _ I2)
theorem lw_16 (I : Inv v h top x Z S) (hbz : b < z0 v) (hi : i + 6 ≤ L) (hL : L ≤ 3072) (hc : cells + 1 ≤ 601024) (hs : slots + 600 ≤ 7293034) (hk : lwK v b L xs x i cells slots) : J v mL_law room_1 (lwQ2 b L xs lw_Z) (z0 v) cells slots h top 1142 (lwS b x i) [] := by
  obtain ⟨t, y, d, mc, ms, E, ⟨ht3, hd, hmc, hms⟩, hC, hM⟩ := op_absorptionTime I (p := if xs (i + 2) = 0 then 0 else 1) (by split <;> omega) (xs (i + 1))
  refine r_aload_n (pc := 1142) (i := 1) (tLw16.at 0 rfl) rfl rfl ?_
  refine r_aload_n (pc := 1143) (i := 0) (tLw16.at 1 rfl) rfl rfl ?_
  refine r_iload (pc := 1144) (i := 5) (tLw16.at 2 rfl) rfl ?_
  refine r_iconst (pc := 1146) (w := nI 1) (tLw16.at 3 rfl) (by decide) ?_
  first | refine r_iaddN (pc := 1147) (tLw16.at 4 rfl) ?_ | refine r_iadd (pc := 1147) (tLw16.at 4 rfl) ?_
  refine r_sld (pc := 1148) (tLw16.at 5 rfl) hbz rfl (by omega) hL ?_
  refine r_aload_n (pc := 1149) (i := 0) (tLw16.at 6 rfl) rfl rfl ?_
  refine r_iload (pc := 1150) (i := 5) (tLw16.at 7 rfl) rfl ?_
  refine r_iconst (pc := 1152) (w := nI 2) (tLw16.at 8 rfl) (by decide) ?_
  first | refine r_iaddN (pc := 1153) (tLw16.at 9 rfl) ?_ | refine r_iadd (pc := 1153) (tLw16.at 9 rfl) ?_
  refine r_sld (pc := 1154) (tLw16.at 10 rfl) hbz rfl (by omega) hL ?_
  refine r_bool (pc := 1155) (tLw16.at 11 rfl) (tLw16.at 12 rfl) (tLw16.at 13 rfl) (tLw16.at 14 rfl) ?_
  refine r_aload_n (pc := 1163) (i := 3) (tLw16.at 15 rfl) rfl rfl ?_
  refine r_callSH (M' := mL_absorptionTime) (pc := 1164) (tLw16.at 16 rfl) ml_L_159 rfl mw_L_absorptionTime ⟨by show d + 1 ≤ 2048; omega, by show 8 + (5 + 11) + 60 * d ≤ 84000; omega⟩ hC rfl rfl (Nat.le_of_ble_eq_true rfl) (by show cells + mc ≤ 601024; omega) (by show slots + ms ≤ 7293034; omega) ?_
  rintro _ h1 top1 ⟨rfl, hE, fo, hfo, hfy⟩
  obtain ⟨⟨fs, hfs⟩, hM2⟩ := hM h1 top1 hE
  refine r_istore (pc := 1167) (i := 6) (tLw16.at 17 rfl) (by decide) ?_
  refine r_aload_n (pc := 1169) (i := 2) (tLw16.at 18 rfl) rfl rfl ?_
  refine r_aload_n (pc := 1170) (i := 0) (tLw16.at 19 rfl) rfl rfl ?_
  refine r_iload (pc := 1171) (i := 5) (tLw16.at 20 rfl) rfl ?_
  refine r_iconst (pc := 1173) (w := nI 1) (tLw16.at 21 rfl) (by decide) ?_
  first | refine r_iaddN (pc := 1174) (tLw16.at 22 rfl) ?_ | refine r_iadd (pc := 1174) (tLw16.at 22 rfl) ?_
  refine r_sld (pc := 1175) (tLw16.at 23 rfl) hbz rfl (by omega) hL ?_
  refine r_aload_n (pc := 1176) (i := 0) (tLw16.at 24 rfl) rfl rfl ?_
  refine r_iload (pc := 1177) (i := 5) (tLw16.at 25 rfl) rfl ?_
  refine r_iconst (pc := 1179) (w := nI 2) (tLw16.at 26 rfl) (by decide) ?_
  first | refine r_iaddN (pc := 1180) (tLw16.at 27 rfl) ?_ | refine r_iadd (pc := 1180) (tLw16.at 27 rfl) ?_
  refine r_sld (pc := 1181) (tLw16.at 28 rfl) hbz rfl (by omega) hL ?_
  refine r_bool (pc := 1182) (tLw16.at 29 rfl) (tLw16.at 30 rfl) (tLw16.at 31 rfl) (tLw16.at 32 rfl) ?_
  refine r_callV (M' := mX11_absorptionTime) (pc := 1190) (tLw16.at 33 rfl) ml_L_162 rfl mw_X11_absorptionTime ⟨by decide, by decide⟩ hfs rfl rfl hM2 rfl rfl (Nat.le_of_ble_eq_true rfl) (by show cells + mc + 0 ≤ 601024; omega) (by show slots + ms + 0 ≤ 7293034; omega) ?_
  rintro _ h2 top2 ⟨_, rfl, ⟨bb, rfl, hbb⟩, rfl, h110, Z', S', I2, hth⟩
  refine r_lstore (pc := 1193) (i := 7) (tLw16.at 34 rfl) (by decide) ?_
  refine r_aload_n (pc := 1195) (i := 2) (tLw16.at 35 rfl) rfl rfl ?_
  refine r_callV (M' := mX11_thrown) (pc := 1196) (tLw16.at 36 rfl) ml_L_105 rfl mw_X11_thrown ⟨by decide, by decide⟩ I2.mo rfl rfl (c_thr I2) rfl rfl (Nat.le_of_ble_eq_true rfl) (by show cells + mc + 0 + 0 ≤ 601024; omega) (by show slots + ms + 0 + 0 ≤ 7293034; omega) ?_
  rintro _ _ _ ⟨rfl, rfl, rfl⟩
  refine r_iload (pc := 1199) (i := 6) (tLw16.at 37 rfl) rfl ?_
  refine r_icmp_eq (pc := 1201) 1206 (tLw16.at 38 rfl) (by decide) (fun _ => ?_) (fun c => absurd (by rw [hth]) c)
  refine r_iload (pc := 1206) (i := 6) (tLw16.at 41 rfl) rfl ?_
  refine r_if_ne (pc := 1208) 1222 (tLw16.at 42 rfl) (by decide) (fun _ => ?_) (fun c => ?_)
  · refine r_goto (pc := 1222) 2157 (tLw16.at 51 rfl) (by decide) ?_
    refine r_ls [some (.ref b), some (.ref x), some (.ref (x + 96)), some (.ref (x + 110)), some (.ref (x + 111)), some (.int (nI i)), some (.int (nI t)), some (.long bb), none] rfl (r_drop ?_)
    exact r_wide (k := cells + 1) (n := slots + 600) (by omega) (by omega) (hk _ _ _ _ I2)
  · have t0 : t = 0 := nI_z3 t ht3 c
    rw [← h110] at hfo
    refine r_aload_n (pc := 1211) (i := 3) (tLw16.at 43 rfl) rfl rfl ?_
    refine r_iconst (pc := 1212) (w := nI 0) (tLw16.at 44 rfl) (by decide) ?_
    refine r_lald (pc := 1213) (tLw16.at 45 rfl) hfo 0 rfl (by omega) (Nat.le_of_ble_eq_true rfl) ?_
    rw [hfy t0, ← hbb t0]
    refine r_lload (pc := 1214) (i := 7) (tLw16.at 46 rfl) rfl ?_
    refine r_lq (pc := 1216) 1222 (tLw16.at 47 rfl) (tLw16.at 48 rfl) (by decide) rfl ?_
    refine r_goto (pc := 1222) 2157 (tLw16.at 51 rfl) (by decide) ?_
    refine r_ls [some (.ref b), some (.ref x), some (.ref (x + 96)), some (.ref (x + 110)), some (.ref (x + 111)), some (.int (nI i)), some (.int (nI t)), some (.long bb), none] rfl (r_drop ?_)
    exact r_wide (k := cells + 1) (n := slots + 600) (by omega) (by omega) (hk _ _ _ _ I2)
end

