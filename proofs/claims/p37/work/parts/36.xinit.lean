/-! ===== the component's constructor ===== -/
def Z0 (v : Ev) : CS := ((-1, (fun _ => 0), 0), G0 v, 0, 0, fun _ => G0 v)
theorem okR_0 (v : Ev) : okQ (R0 v) := by
  refine ⟨⟨⟨by show (-128 : Int) ≤ 256; omega, by show (256 : Int) ≤ 266; omega⟩, Nat.zero_le _, Nat.zero_le _, Nat.zero_le _, Nat.zero_le _⟩, fun i => ⟨⟨by show (-128 : Int) ≤ 0; omega, by show (0 : Int) ≤ 266; omega⟩, Nat.zero_le _, Nat.zero_le _⟩, ⟨Nat.zero_le _, Nat.zero_le _, by show 0 < 64; omega, fun k _ => Nat.zero_le _, fun k _ => Nat.zero_le _⟩, fun k => ⟨by show (-7 : Int) ≤ 0; omega, by show (0 : Int) ≤ 10000; omega⟩, fun k => ⟨by show (-128 : Int) ≤ 0; omega, by show (0 : Int) ≤ 266; omega⟩⟩
theorem c_xInit {v : Ev} {h : Hp} {x : Nat} (hx : h x = some (ob 10 [.int 0, .null, .null, .null, .null, .null, .null, .null, .null, .null, .null, .null])) : Cal v mX10_init 4 95 4300 [.ref x] h (x + 1) (fun r h' top' => r = none ∧ top' = x + 96 ∧ okX v h' x (Z0 v) ∧ ∀ a, (a < x ∨ x + 96 ≤ a) → h' a = h a) noX := by
  refine Cal.ofJ (by decide +kernel) rfl (Nat.le_of_ble_eq_true rfl) fun hz0 => ?_
  refine r_ls [some (.ref x)] rfl ?_
  refine r_aload_n (pc := 0) (i := 0) (tX10_init.at 0 rfl) rfl rfl ?_
  refine r_objInit (pc := 1) (tX10_init.at 1 rfl) ml_X10_1 oi_inst oi_code (Nat.le_of_ble_eq_true rfl) (Nat.le_of_ble_eq_true rfl) ?_
  refine r_aload_n (pc := 4) (i := 0) (tX10_init.at 2 rfl) rfl rfl ?_
  refine r_iconst (pc := 5) (w := zI (-1)) (tX10_init.at 3 rfl) (by decide) ?_
  refine r_put (pc := 6) (tX10_init.at 4 rfl) pf_X10_7 (hx) (Nat.le_of_ble_eq_true rfl) (rfl) (rfl) ?_
  refine r_aload_n (pc := 9) (i := 0) (tX10_init.at 5 rfl) rfl rfl ?_
  refine r_new (pc := 10) (tX10_init.at 6 rfl) nw_X10_13 (Nat.le_of_ble_eq_true rfl) (Nat.le_of_ble_eq_true rfl) (fun _ => ?_)
  refine r_dup (pc := 13) (tX10_init.at 7 rfl) rfl ?_
  refine r_callI (M' := mX3_init) (pc := 14) (tX10_init.at 8 rfl) (Or.inr ⟨_, mn_X10_15⟩) rfl rfl mw_X3_init ⟨by decide, by decide⟩ (c_gInit (g := x + 1) (hp_eq _ _ _)) rfl rfl (Nat.le_of_ble_eq_true rfl) (Nat.le_of_ble_eq_true rfl) (Nat.le_of_ble_eq_true rfl) ?_
  rintro _ H1 _ ⟨rfl, hH1, rfl⟩
  have o1 : H1 x = some (ob 10 [.int (zI (-1)), .null, .null, .null, .null, .null, .null, .null, .null, .null, .null, .null]) := by
    rw [← hH1]
    simp (disch := omega) only [coH, gH_out, hiH_out, rdH_out, pH_out, eH_out, spH_out, hp_ne, hp_eq]
    rfl
  refine r_putF (pc := 17) (tX10_init.at 9 rfl) pff_X10_16 rfl (o1) (Nat.le_of_ble_eq_true rfl) rfl rfl ?_
  refine r_aload_n (pc := 20) (i := 0) (tX10_init.at 10 rfl) rfl rfl ?_
  refine r_new (pc := 21) (tX10_init.at 11 rfl) nw_X10_20 (Nat.le_of_ble_eq_true rfl) (Nat.le_of_ble_eq_true rfl) (fun _ => ?_)
  refine r_dup (pc := 24) (tX10_init.at 12 rfl) rfl ?_
  refine r_callI (M' := mX4_init) (pc := 25) (tX10_init.at 13 rfl) (Or.inl ml_X10_22) rfl rfl mw_X4_init ⟨by decide, by decide⟩ (c_hInit (q := x + 7) (hp_eq _ _ _)) rfl rfl (Nat.le_of_ble_eq_true rfl) (Nat.le_of_ble_eq_true rfl) (Nat.le_of_ble_eq_true rfl) ?_
  rintro _ H7 _ ⟨rfl, hH7, rfl⟩
  have o7 : H7 x = some (ob 10 [.int (zI (-1)), .ref (x + 1), .null, .null, .null, .null, .null, .null, .null, .null, .null, .null]) := by
    rw [← hH7]
    simp (disch := omega) only [coH, gH_out, hiH_out, rdH_out, pH_out, eH_out, spH_out, hp_ne, hp_eq]
    rfl
  refine r_putF (pc := 28) (tX10_init.at 14 rfl) pff_X10_23 rfl (o7) (Nat.le_of_ble_eq_true rfl) rfl rfl ?_
  refine r_aload_n (pc := 31) (i := 0) (tX10_init.at 15 rfl) rfl rfl ?_
  refine r_new (pc := 32) (tX10_init.at 16 rfl) nw_X10_27 (Nat.le_of_ble_eq_true rfl) (Nat.le_of_ble_eq_true rfl) (fun _ => ?_)
  refine r_dup (pc := 35) (tX10_init.at 17 rfl) rfl ?_
  refine r_callI (M' := mX6_init) (pc := 36) (tX10_init.at 18 rfl) (Or.inr ⟨_, mn_X10_29⟩) rfl rfl mw_X6_init ⟨by decide, by decide⟩ (c_rdInit (q := x + 57) (hp_eq _ _ _)) rfl rfl (Nat.le_of_ble_eq_true rfl) (Nat.le_of_ble_eq_true rfl) (Nat.le_of_ble_eq_true rfl) ?_
  rintro _ H57 _ ⟨rfl, hH57, rfl⟩
  have o57 : H57 x = some (ob 10 [.int (zI (-1)), .ref (x + 1), .ref (x + 7), .null, .null, .null, .null, .null, .null, .null, .null, .null]) := by
    rw [← hH57]
    simp (disch := omega) only [coH, gH_out, hiH_out, rdH_out, pH_out, eH_out, spH_out, hp_ne, hp_eq]
    rfl
  refine r_putF (pc := 39) (tX10_init.at 19 rfl) pff_X10_30 rfl (o57) (Nat.le_of_ble_eq_true rfl) rfl rfl ?_
  refine r_aload_n (pc := 42) (i := 0) (tX10_init.at 20 rfl) rfl rfl ?_
  refine r_new (pc := 43) (tX10_init.at 21 rfl) nw_X10_34 (Nat.le_of_ble_eq_true rfl) (Nat.le_of_ble_eq_true rfl) (fun _ => ?_)
  refine r_dup (pc := 46) (tX10_init.at 22 rfl) rfl ?_
  refine r_callI (M' := mX0_init) (pc := 47) (tX10_init.at 23 rfl) (Or.inr ⟨_, mn_X10_36⟩) rfl rfl mw_X0_init ⟨by decide, by decide⟩ (c_coInit (q := x + 71) (hp_eq _ _ _)) rfl rfl (Nat.le_of_ble_eq_true rfl) (Nat.le_of_ble_eq_true rfl) (Nat.le_of_ble_eq_true rfl) ?_
  rintro _ H71 _ ⟨rfl, hH71, rfl⟩
  have o71 : H71 x = some (ob 10 [.int (zI (-1)), .ref (x + 1), .ref (x + 7), .ref (x + 57), .null, .null, .null, .null, .null, .null, .null, .null]) := by
    rw [← hH71]
    simp (disch := omega) only [coH, gH_out, hiH_out, rdH_out, pH_out, eH_out, spH_out, hp_ne, hp_eq]
    rfl
  refine r_putF (pc := 50) (tX10_init.at 24 rfl) pff_X10_37 rfl (o71) (Nat.le_of_ble_eq_true rfl) rfl rfl ?_
  refine r_aload_n (pc := 53) (i := 0) (tX10_init.at 25 rfl) rfl rfl ?_
  refine r_new (pc := 54) (tX10_init.at 26 rfl) nw_X10_41 (Nat.le_of_ble_eq_true rfl) (Nat.le_of_ble_eq_true rfl) (fun _ => ?_)
  refine r_dup (pc := 57) (tX10_init.at 27 rfl) rfl ?_
  refine r_callI (M' := mX5_init) (pc := 58) (tX10_init.at 28 rfl) (Or.inr ⟨_, mn_X10_43⟩) rfl rfl mw_X5_init ⟨by decide, by decide⟩ (c_ptInit (q := x + 74) (hp_eq _ _ _)) rfl rfl (Nat.le_of_ble_eq_true rfl) (Nat.le_of_ble_eq_true rfl) (Nat.le_of_ble_eq_true rfl) ?_
  rintro _ H74 _ ⟨rfl, hH74, rfl⟩
  have o74 : H74 x = some (ob 10 [.int (zI (-1)), .ref (x + 1), .ref (x + 7), .ref (x + 57), .ref (x + 71), .null, .null, .null, .null, .null, .null, .null]) := by
    rw [← hH74]
    simp (disch := omega) only [coH, gH_out, hiH_out, rdH_out, pH_out, eH_out, spH_out, hp_ne, hp_eq]
    rfl
  refine r_putF (pc := 61) (tX10_init.at 29 rfl) pff_X10_44 rfl (o74) (Nat.le_of_ble_eq_true rfl) rfl rfl ?_
  refine r_aload_n (pc := 64) (i := 0) (tX10_init.at 30 rfl) rfl rfl ?_
  refine r_new (pc := 65) (tX10_init.at 31 rfl) nw_X10_48 (Nat.le_of_ble_eq_true rfl) (Nat.le_of_ble_eq_true rfl) (fun _ => ?_)
  refine r_dup (pc := 68) (tX10_init.at 32 rfl) rfl ?_
  refine r_callI (M' := mX1_init) (pc := 69) (tX10_init.at 33 rfl) (Or.inr ⟨_, mn_X10_50⟩) rfl rfl mw_X1_init ⟨by decide, by decide⟩ (c_eqInit (q := x + 83) (hp_eq _ _ _)) rfl rfl (Nat.le_of_ble_eq_true rfl) (Nat.le_of_ble_eq_true rfl) (Nat.le_of_ble_eq_true rfl) ?_
  rintro _ H83 _ ⟨rfl, hH83, rfl⟩
  have o83 : H83 x = some (ob 10 [.int (zI (-1)), .ref (x + 1), .ref (x + 7), .ref (x + 57), .ref (x + 71), .ref (x + 74), .null, .null, .null, .null, .null, .null]) := by
    rw [← hH83]
    simp (disch := omega) only [coH, gH_out, hiH_out, rdH_out, pH_out, eH_out, spH_out, hp_ne, hp_eq]
    rfl
  refine r_putF (pc := 72) (tX10_init.at 34 rfl) pff_X10_51 rfl (o83) (Nat.le_of_ble_eq_true rfl) rfl rfl ?_
  refine r_aload_n (pc := 75) (i := 0) (tX10_init.at 35 rfl) rfl rfl ?_
  refine r_new (pc := 76) (tX10_init.at 36 rfl) nw_X10_55 (Nat.le_of_ble_eq_true rfl) (Nat.le_of_ble_eq_true rfl) (fun _ => ?_)
  refine r_dup (pc := 79) (tX10_init.at 37 rfl) rfl ?_
  refine r_callI (M' := mX2_init) (pc := 80) (tX10_init.at 38 rfl) (Or.inr ⟨_, mn_X10_57⟩) rfl rfl mw_X2_init ⟨by decide, by decide⟩ (c_frInit (q := x + 87) (hp_eq _ _ _) rfl) rfl rfl (Nat.le_of_ble_eq_true rfl) (Nat.le_of_ble_eq_true rfl) (Nat.le_of_ble_eq_true rfl) ?_
  rintro _ H87 _ ⟨rfl, hH87, rfl⟩
  have o87 : H87 x = some (ob 10 [.int (zI (-1)), .ref (x + 1), .ref (x + 7), .ref (x + 57), .ref (x + 71), .ref (x + 74), .ref (x + 83), .null, .null, .null, .null, .null]) := by
    rw [← hH87]
    simp (disch := omega) only [coH, gH_out, hiH_out, rdH_out, pH_out, eH_out, spH_out, hp_ne, hp_eq]
    rfl
  refine r_putF (pc := 83) (tX10_init.at 39 rfl) pff_X10_58 rfl (o87) (Nat.le_of_ble_eq_true rfl) rfl rfl ?_
  refine r_aload_n (pc := 86) (i := 0) (tX10_init.at 40 rfl) rfl rfl ?_
  refine r_new (pc := 87) (tX10_init.at 41 rfl) nw_X10_55 (Nat.le_of_ble_eq_true rfl) (Nat.le_of_ble_eq_true rfl) (fun _ => ?_)
  refine r_dup (pc := 90) (tX10_init.at 42 rfl) rfl ?_
  refine r_callI (M' := mX2_init) (pc := 91) (tX10_init.at 43 rfl) (Or.inr ⟨_, mn_X10_57⟩) rfl rfl mw_X2_init ⟨by decide, by decide⟩ (c_frInit (q := x + 88) (hp_eq _ _ _) rfl) rfl rfl (Nat.le_of_ble_eq_true rfl) (Nat.le_of_ble_eq_true rfl) (Nat.le_of_ble_eq_true rfl) ?_
  rintro _ H88 _ ⟨rfl, hH88, rfl⟩
  have o88 : H88 x = some (ob 10 [.int (zI (-1)), .ref (x + 1), .ref (x + 7), .ref (x + 57), .ref (x + 71), .ref (x + 74), .ref (x + 83), .ref (x + 87), .null, .null, .null, .null]) := by
    rw [← hH88]
    simp (disch := omega) only [coH, gH_out, hiH_out, rdH_out, pH_out, eH_out, spH_out, hp_ne, hp_eq]
    rfl
  refine r_putF (pc := 94) (tX10_init.at 44 rfl) pff_X10_62 rfl (o88) (Nat.le_of_ble_eq_true rfl) rfl rfl ?_
  refine r_aload_n (pc := 97) (i := 0) (tX10_init.at 45 rfl) rfl rfl ?_
  refine r_bipush (pc := 98) (w := nI 6) (tX10_init.at 46 rfl) (by decide) ?_
  refine r_newaJ (pc := 100) (6) (tX10_init.at 47 rfl) (rfl) (Nat.le_of_ble_eq_true rfl) ac_long (Nat.le_of_ble_eq_true rfl) (Nat.le_of_ble_eq_true rfl) (fun fr100 => ?_)
  refine r_putF (pc := 102) (tX10_init.at 48 rfl) pff_X10_65 rfl ((hp_ne _ _ (by omega)).trans (hp_eq _ _ _)) (Nat.le_of_ble_eq_true rfl) rfl rfl ?_
  refine r_aload_n (pc := 105) (i := 0) (tX10_init.at 49 rfl) rfl rfl ?_
  refine r_new (pc := 106) (tX10_init.at 50 rfl) nw_X10_69 (Nat.le_of_ble_eq_true rfl) (Nat.le_of_ble_eq_true rfl) (fun _ => ?_)
  refine r_dup (pc := 109) (tX10_init.at 51 rfl) rfl ?_
  refine r_callI (M' := mX8_init) (pc := 110) (tX10_init.at 52 rfl) (Or.inr ⟨_, mn_X10_71⟩) rfl rfl mw_X8_init ⟨by decide, by decide⟩ (c_stInit (e := frE 0 0) (q := x + 90) (hp_eq _ _ _)) rfl rfl (Nat.le_of_ble_eq_true rfl) (Nat.le_of_ble_eq_true rfl) (Nat.le_of_ble_eq_true rfl) ?_
  rintro _ H90 _ ⟨rfl, hH90, rfl⟩
  have o90 : H90 x = some (ob 10 [.int (zI (-1)), .ref (x + 1), .ref (x + 7), .ref (x + 57), .ref (x + 71), .ref (x + 74), .ref (x + 83), .ref (x + 87), .ref (x + 88), .ref (x + 89), .null, .null]) := by
    rw [← hH90]
    simp (disch := omega) only [coH, gH_out, hiH_out, rdH_out, pH_out, eH_out, spH_out, hp_ne, hp_eq]
    rfl
  refine r_putF (pc := 113) (tX10_init.at 53 rfl) pff_X10_72 rfl (o90) (Nat.le_of_ble_eq_true rfl) rfl rfl ?_
  refine r_aload_n (pc := 116) (i := 0) (tX10_init.at 54 rfl) rfl rfl ?_
  refine r_new (pc := 117) (tX10_init.at 55 rfl) nw_X10_76 (Nat.le_of_ble_eq_true rfl) (Nat.le_of_ble_eq_true rfl) (fun _ => ?_)
  refine r_dup (pc := 120) (tX10_init.at 56 rfl) rfl ?_
  refine r_callI (M' := mX7_init) (pc := 121) (tX10_init.at 57 rfl) (Or.inr ⟨_, mn_X10_78⟩) rfl rfl mw_X7_init ⟨by decide, by decide⟩ (c_spInit (q := x + 91) (hp_eq _ _ _)) rfl rfl (Nat.le_of_ble_eq_true rfl) (Nat.le_of_ble_eq_true rfl) (Nat.le_of_ble_eq_true rfl) ?_
  rintro _ H91 _ ⟨rfl, hH91, rfl⟩
  have o91 : H91 x = some (ob 10 [.int (zI (-1)), .ref (x + 1), .ref (x + 7), .ref (x + 57), .ref (x + 71), .ref (x + 74), .ref (x + 83), .ref (x + 87), .ref (x + 88), .ref (x + 89), .ref (x + 90), .null]) := by
    rw [← hH91]
    simp (disch := omega) only [coH, gH_out, hiH_out, rdH_out, pH_out, eH_out, spH_out, hp_ne, hp_eq]
    rfl
  refine r_putF (pc := 124) (tX10_init.at 58 rfl) pff_X10_79 rfl (o91) (Nat.le_of_ble_eq_true rfl) rfl rfl ?_
  refine r_vret (pc := 127) (tX10_init.at 59 rfl) rfl (Nat.le_of_ble_eq_true rfl) (Nat.le_of_ble_eq_true rfl) ?_
  have S : ∀ {a b : Hp}, a = b → a = b := id
  generalize hL : hp H91 x _ = L
  have a1 : agr H1 L (x + 1) 6 := fun a g1 g2 => by
    rw [← hL]
    simp (disch := omega) only [coH, gH_out, hiH_out, rdH_out, pH_out, eH_out, spH_out, hp_ne]
    rw [← hH91]
    simp (disch := omega) only [coH, gH_out, hiH_out, rdH_out, pH_out, eH_out, spH_out, hp_ne]
    rw [← hH90]
    simp (disch := omega) only [coH, gH_out, hiH_out, rdH_out, pH_out, eH_out, spH_out, hp_ne]
    rw [← hH88]
    simp (disch := omega) only [coH, gH_out, hiH_out, rdH_out, pH_out, eH_out, spH_out, hp_ne]
    rw [← hH87]
    simp (disch := omega) only [coH, gH_out, hiH_out, rdH_out, pH_out, eH_out, spH_out, hp_ne]
    rw [← hH83]
    simp (disch := omega) only [coH, gH_out, hiH_out, rdH_out, pH_out, eH_out, spH_out, hp_ne]
    rw [← hH74]
    simp (disch := omega) only [coH, gH_out, hiH_out, rdH_out, pH_out, eH_out, spH_out, hp_ne]
    rw [← hH71]
    simp (disch := omega) only [coH, gH_out, hiH_out, rdH_out, pH_out, eH_out, spH_out, hp_ne]
    rw [← hH57]
    simp (disch := omega) only [coH, gH_out, hiH_out, rdH_out, pH_out, eH_out, spH_out, hp_ne]
    rw [← hH7]
    simp (disch := omega) only [coH, gH_out, hiH_out, rdH_out, pH_out, eH_out, spH_out, hp_ne]
  have a7 : agr H7 L (x + 7) 50 := fun a g1 g2 => by
    rw [← hL]
    simp (disch := omega) only [coH, gH_out, hiH_out, rdH_out, pH_out, eH_out, spH_out, hp_ne]
    rw [← hH91]
    simp (disch := omega) only [coH, gH_out, hiH_out, rdH_out, pH_out, eH_out, spH_out, hp_ne]
    rw [← hH90]
    simp (disch := omega) only [coH, gH_out, hiH_out, rdH_out, pH_out, eH_out, spH_out, hp_ne]
    rw [← hH88]
    simp (disch := omega) only [coH, gH_out, hiH_out, rdH_out, pH_out, eH_out, spH_out, hp_ne]
    rw [← hH87]
    simp (disch := omega) only [coH, gH_out, hiH_out, rdH_out, pH_out, eH_out, spH_out, hp_ne]
    rw [← hH83]
    simp (disch := omega) only [coH, gH_out, hiH_out, rdH_out, pH_out, eH_out, spH_out, hp_ne]
    rw [← hH74]
    simp (disch := omega) only [coH, gH_out, hiH_out, rdH_out, pH_out, eH_out, spH_out, hp_ne]
    rw [← hH71]
    simp (disch := omega) only [coH, gH_out, hiH_out, rdH_out, pH_out, eH_out, spH_out, hp_ne]
    rw [← hH57]
    simp (disch := omega) only [coH, gH_out, hiH_out, rdH_out, pH_out, eH_out, spH_out, hp_ne]
  have a57 : agr H57 L (x + 57) 14 := fun a g1 g2 => by
    rw [← hL]
    simp (disch := omega) only [coH, gH_out, hiH_out, rdH_out, pH_out, eH_out, spH_out, hp_ne]
    rw [← hH91]
    simp (disch := omega) only [coH, gH_out, hiH_out, rdH_out, pH_out, eH_out, spH_out, hp_ne]
    rw [← hH90]
    simp (disch := omega) only [coH, gH_out, hiH_out, rdH_out, pH_out, eH_out, spH_out, hp_ne]
    rw [← hH88]
    simp (disch := omega) only [coH, gH_out, hiH_out, rdH_out, pH_out, eH_out, spH_out, hp_ne]
    rw [← hH87]
    simp (disch := omega) only [coH, gH_out, hiH_out, rdH_out, pH_out, eH_out, spH_out, hp_ne]
    rw [← hH83]
    simp (disch := omega) only [coH, gH_out, hiH_out, rdH_out, pH_out, eH_out, spH_out, hp_ne]
    rw [← hH74]
    simp (disch := omega) only [coH, gH_out, hiH_out, rdH_out, pH_out, eH_out, spH_out, hp_ne]
    rw [← hH71]
    simp (disch := omega) only [coH, gH_out, hiH_out, rdH_out, pH_out, eH_out, spH_out, hp_ne]
  have a71 : agr H71 L (x + 71) 3 := fun a g1 g2 => by
    rw [← hL]
    simp (disch := omega) only [coH, gH_out, hiH_out, rdH_out, pH_out, eH_out, spH_out, hp_ne]
    rw [← hH91]
    simp (disch := omega) only [coH, gH_out, hiH_out, rdH_out, pH_out, eH_out, spH_out, hp_ne]
    rw [← hH90]
    simp (disch := omega) only [coH, gH_out, hiH_out, rdH_out, pH_out, eH_out, spH_out, hp_ne]
    rw [← hH88]
    simp (disch := omega) only [coH, gH_out, hiH_out, rdH_out, pH_out, eH_out, spH_out, hp_ne]
    rw [← hH87]
    simp (disch := omega) only [coH, gH_out, hiH_out, rdH_out, pH_out, eH_out, spH_out, hp_ne]
    rw [← hH83]
    simp (disch := omega) only [coH, gH_out, hiH_out, rdH_out, pH_out, eH_out, spH_out, hp_ne]
    rw [← hH74]
    simp (disch := omega) only [coH, gH_out, hiH_out, rdH_out, pH_out, eH_out, spH_out, hp_ne]
  have a74 : agr H74 L (x + 74) 9 := fun a g1 g2 => by
    rw [← hL]
    simp (disch := omega) only [coH, gH_out, hiH_out, rdH_out, pH_out, eH_out, spH_out, hp_ne]
    rw [← hH91]
    simp (disch := omega) only [coH, gH_out, hiH_out, rdH_out, pH_out, eH_out, spH_out, hp_ne]
    rw [← hH90]
    simp (disch := omega) only [coH, gH_out, hiH_out, rdH_out, pH_out, eH_out, spH_out, hp_ne]
    rw [← hH88]
    simp (disch := omega) only [coH, gH_out, hiH_out, rdH_out, pH_out, eH_out, spH_out, hp_ne]
    rw [← hH87]
    simp (disch := omega) only [coH, gH_out, hiH_out, rdH_out, pH_out, eH_out, spH_out, hp_ne]
    rw [← hH83]
    simp (disch := omega) only [coH, gH_out, hiH_out, rdH_out, pH_out, eH_out, spH_out, hp_ne]
  have a83 : agr H83 L (x + 83) 4 := fun a g1 g2 => by
    rw [← hL]
    simp (disch := omega) only [coH, gH_out, hiH_out, rdH_out, pH_out, eH_out, spH_out, hp_ne]
    rw [← hH91]
    simp (disch := omega) only [coH, gH_out, hiH_out, rdH_out, pH_out, eH_out, spH_out, hp_ne]
    rw [← hH90]
    simp (disch := omega) only [coH, gH_out, hiH_out, rdH_out, pH_out, eH_out, spH_out, hp_ne]
    rw [← hH88]
    simp (disch := omega) only [coH, gH_out, hiH_out, rdH_out, pH_out, eH_out, spH_out, hp_ne]
    rw [← hH87]
    simp (disch := omega) only [coH, gH_out, hiH_out, rdH_out, pH_out, eH_out, spH_out, hp_ne]
  have a87 : agr H87 L (x + 87) 1 := fun a g1 g2 => by
    rw [← hL]
    simp (disch := omega) only [coH, gH_out, hiH_out, rdH_out, pH_out, eH_out, spH_out, hp_ne]
    rw [← hH91]
    simp (disch := omega) only [coH, gH_out, hiH_out, rdH_out, pH_out, eH_out, spH_out, hp_ne]
    rw [← hH90]
    simp (disch := omega) only [coH, gH_out, hiH_out, rdH_out, pH_out, eH_out, spH_out, hp_ne]
    rw [← hH88]
    simp (disch := omega) only [coH, gH_out, hiH_out, rdH_out, pH_out, eH_out, spH_out, hp_ne]
  have a88 : agr H88 L (x + 88) 1 := fun a g1 g2 => by
    rw [← hL]
    simp (disch := omega) only [coH, gH_out, hiH_out, rdH_out, pH_out, eH_out, spH_out, hp_ne]
    rw [← hH91]
    simp (disch := omega) only [coH, gH_out, hiH_out, rdH_out, pH_out, eH_out, spH_out, hp_ne]
    rw [← hH90]
    simp (disch := omega) only [coH, gH_out, hiH_out, rdH_out, pH_out, eH_out, spH_out, hp_ne]
  have a90 : agr H90 L (x + 90) 1 := fun a g1 g2 => by
    rw [← hL]
    simp (disch := omega) only [coH, gH_out, hiH_out, rdH_out, pH_out, eH_out, spH_out, hp_ne]
    rw [← hH91]
    simp (disch := omega) only [coH, gH_out, hiH_out, rdH_out, pH_out, eH_out, spH_out, hp_ne]
  have a91 : agr H91 L (x + 91) 5 := fun a g1 g2 => by
    rw [← hL]
    simp (disch := omega) only [coH, gH_out, hiH_out, rdH_out, pH_out, eH_out, spH_out, hp_ne]
  have a89 : agr H90 L (x + 89) 1 := fun a g1 g2 => by
    rw [← hL]
    simp (disch := omega) only [coH, gH_out, hiH_out, rdH_out, pH_out, eH_out, spH_out, hp_ne]
    rw [← hH91]
    simp (disch := omega) only [coH, gH_out, hiH_out, rdH_out, pH_out, eH_out, spH_out, hp_ne]
  have out : ∀ a, (a < x ∨ x + 96 ≤ a) → L a = h a := fun a g1 => by
    rw [← hL]
    simp (disch := omega) only [coH, gH_out, hiH_out, rdH_out, pH_out, eH_out, spH_out, hp_ne]
    rw [← hH91]
    simp (disch := omega) only [coH, gH_out, hiH_out, rdH_out, pH_out, eH_out, spH_out, hp_ne]
    rw [← hH90]
    simp (disch := omega) only [coH, gH_out, hiH_out, rdH_out, pH_out, eH_out, spH_out, hp_ne]
    rw [← hH88]
    simp (disch := omega) only [coH, gH_out, hiH_out, rdH_out, pH_out, eH_out, spH_out, hp_ne]
    rw [← hH87]
    simp (disch := omega) only [coH, gH_out, hiH_out, rdH_out, pH_out, eH_out, spH_out, hp_ne]
    rw [← hH83]
    simp (disch := omega) only [coH, gH_out, hiH_out, rdH_out, pH_out, eH_out, spH_out, hp_ne]
    rw [← hH74]
    simp (disch := omega) only [coH, gH_out, hiH_out, rdH_out, pH_out, eH_out, spH_out, hp_ne]
    rw [← hH71]
    simp (disch := omega) only [coH, gH_out, hiH_out, rdH_out, pH_out, eH_out, spH_out, hp_ne]
    rw [← hH57]
    simp (disch := omega) only [coH, gH_out, hiH_out, rdH_out, pH_out, eH_out, spH_out, hp_ne]
    rw [← hH7]
    simp (disch := omega) only [coH, gH_out, hiH_out, rdH_out, pH_out, eH_out, spH_out, hp_ne]
    rw [← hH1]
    simp (disch := omega) only [coH, gH_out, hiH_out, rdH_out, pH_out, eH_out, spH_out, hp_ne]
  refine ⟨rfl, rfl, ⟨⟨?_, ?_, ?_, ?_⟩, ⟨?_, ?_, ?_, ?_, ?_⟩, ?_, ?_, ?_⟩, out⟩
  · rw [← hL]
    exact hp_eq _ _ _
  · refine isG.agr ?_ a1
    rw [← hH1]
    exact gH_is _ _ _ _
  · refine isHi.agr ?_ a7
    rw [← hH7]
    exact hiH_is _ _ _
  · refine qR.agr ⟨R0 v, ?_, okR_0 v, rfl⟩ a57
    rw [← hH57]
    exact rdH_is
  · refine qC.agr ⟨fun _ => 0, fun _ => 0, ⟨⟨?_, ?_⟩, fun i => ⟨by show (-1000000 : Int) ≤ 0; omega, by show (0 : Int) ≤ 1000000; omega⟩, ?_⟩⟩ a71 <;> rw [← hH71]
    · simp (disch := omega) only [coH, hp_ne, hp_eq]
    · simp (disch := omega) only [coH, hp_ne, hp_eq]
    · exact hp_eq _ _ _
  · refine qP.agr ⟨G0 v, fun _ => 0, fun _ => 0, ?_⟩ a74
    rw [← hH74]
    exact pH_is
  · refine qE.agr ⟨fun _ => 0, fun _ => 0, 0, ?_⟩ a83
    rw [← hH83]
    exact eH_is
  · refine qA.agr ⟨0, 1, ?_⟩ (a87 _ (by omega) (by omega))
    rw [← hH87]
    exact hp_eq _ _ _
  · refine qW.agr ⟨0, 1, ?_⟩ (a88 _ (by omega) (by omega))
    rw [← hH88]
    exact hp_eq _ _ _
  · refine qN.agr ⟨fun _ => 0, ?_⟩ (a89 _ (by omega) (by omega))
    rw [← hH90]
    simp (disch := omega) only [hp_ne, hp_eq]
    rfl
  · refine qS.agr ⟨stE 0 0 0 0 (-1), ?_, 0, 0, 0, 0, -1, rfl⟩ (a90 _ (by omega) (by omega))
    rw [← hH90]
    exact hp_eq _ _ _
  · refine qF.agr ⟨fun _ => 0, fun _ => 0, fun _ => 0, 0, 1, ?_⟩ a91
    rw [← hH91]
    exact spH_is

