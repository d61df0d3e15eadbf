/-! ===== the words of the tables by their places, and the methods (written by wip/p37/gen_words.py) ===== -/
theorem bigs (ws : List Cond) (ps : List Nat) (h1 : ws = ps.filterMap (fun i => lw_tbl[i]?)) (h2 : ws.all goodWord = true) : ∀ w ∈ ws, w ∈ big := fun w hw => by
  obtain ⟨h, -⟩ := goodIn_r (big := lw_tbl) ws ps h1 h2 w hw
  exact big_of h (List.all_eq_true.mp h2 w hw)
set_option maxRecDepth 20000 in
theorem inwX0 : ∀ w ∈ u_ws RX0 TX0 2, w ∈ big := bigs _ [246, 248] (by decide +kernel) (by decide +kernel)
theorem clkX0 : Clk 0 RX0 TX0 2 tyX0 := ⟨rfl, inwX0, tyX0_ok, nmX0⟩
set_option maxRecDepth 20000 in
theorem inwX1 : ∀ w ∈ u_ws RX1 TX1 4, w ∈ big := bigs _ [280, 282, 284, 286] (by decide +kernel) (by decide +kernel)
theorem clkX1 : Clk 1 RX1 TX1 4 tyX1 := ⟨rfl, inwX1, tyX1_ok, nmX1⟩
set_option maxRecDepth 20000 in
theorem inwX2 : ∀ w ∈ u_ws RX2 TX2 2, w ∈ big := bigs _ [299, 301] (by decide +kernel) (by decide +kernel)
theorem clkX2 : Clk 2 RX2 TX2 2 tyX2 := ⟨rfl, inwX2, tyX2_ok, nmX2⟩
set_option maxRecDepth 20000 in
theorem inwX3 : ∀ w ∈ u_ws RX3 TX3 10, w ∈ big := bigs _ [114, 116, 118, 120, 122, 124, 126, 128, 130, 132] (by decide +kernel) (by decide +kernel)
theorem clkX3 : Clk 3 RX3 TX3 10 tyX3 := ⟨rfl, inwX3, tyX3_ok, nmX3⟩
set_option maxRecDepth 20000 in
theorem inwX4 : ∀ w ∈ u_ws RX4 TX4 3, w ∈ big := bigs _ [148, 150, 152] (by decide +kernel) (by decide +kernel)
theorem clkX4 : Clk 4 RX4 TX4 3 tyX4 := ⟨rfl, inwX4, tyX4_ok, nmX4⟩
set_option maxRecDepth 20000 in
theorem inwX5 : ∀ w ∈ u_ws RX5 TX5 3, w ∈ big := bigs _ [262, 264, 266] (by decide +kernel) (by decide +kernel)
theorem clkX5 : Clk 5 RX5 TX5 3 tyX5 := ⟨rfl, inwX5, tyX5_ok, nmX5⟩
set_option maxRecDepth 20000 in
theorem inwX6 : ∀ w ∈ u_ws RX6 TX6 13, w ∈ big := bigs _ [211, 213, 215, 217, 219, 221, 223, 225, 227, 229, 231, 233, 235] (by decide +kernel) (by decide +kernel)
theorem clkX6 : Clk 6 RX6 TX6 13 tyX6 := ⟨rfl, inwX6, tyX6_ok, nmX6⟩
set_option maxRecDepth 20000 in
theorem inwX7 : ∀ w ∈ u_ws RX7 TX7 4, w ∈ big := bigs _ [338, 340, 342, 344] (by decide +kernel) (by decide +kernel)
theorem clkX7 : Clk 7 RX7 TX7 4 tyX7 := ⟨rfl, inwX7, tyX7_ok, nmX7⟩
set_option maxRecDepth 20000 in
theorem inwX8 : ∀ w ∈ u_ws RX8 TX8 5, w ∈ big := bigs _ [315, 317, 319, 321, 323] (by decide +kernel) (by decide +kernel)
theorem clkX8 : Clk 8 RX8 TX8 5 tyX8 := ⟨rfl, inwX8, tyX8_ok, nmX8⟩
set_option maxRecDepth 20000 in
theorem inwX9 : ∀ w ∈ u_ws RX9 TX9 6, w ∈ big := bigs _ [178, 180, 182, 184, 186, 188] (by decide +kernel) (by decide +kernel)
theorem clkX9 : Clk 9 RX9 TX9 6 tyX9 := ⟨rfl, inwX9, tyX9_ok, nmX9⟩
set_option maxRecDepth 20000 in
theorem inwX10 : ∀ w ∈ u_ws RX10 TX10 12, w ∈ big := bigs _ [360, 362, 364, 366, 368, 370, 372, 374, 376, 378, 380, 382] (by decide +kernel) (by decide +kernel)
theorem clkX10 : Clk 10 RX10 TX10 12 tyX10 := ⟨rfl, inwX10, tyX10_ok, nmX10⟩
set_option maxRecDepth 20000 in
theorem inwJ0 : ∀ w ∈ u_ws RJ0 TJ0 4, w ∈ big := bigs _ [1228, 1230, 1232, 1234] (by decide +kernel) (by decide +kernel)
theorem clkJ0 : Clk 11 RJ0 TJ0 4 tyJ0 := ⟨rfl, inwJ0, tyJ0_ok, nmJ0⟩
set_option maxRecDepth 20000 in
theorem inwJ4 : ∀ w ∈ u_ws RJ4 TJ4 4, w ∈ big := bigs _ [1029, 1031, 1033, 1035] (by decide +kernel) (by decide +kernel)
theorem clkJ4 : Clk 12 RJ4 TJ4 4 tyJ4 := ⟨rfl, inwJ4, tyJ4_ok, nmJ4⟩
set_option maxRecDepth 20000 in
theorem inwL : ∀ w ∈ u_ws RL TL 8, w ∈ big := bigs _ [568, 570, 572, 574, 576, 578, 580, 582] (by decide +kernel) (by decide +kernel)
theorem clkL : Clk 13 RL TL 8 tyL := ⟨rfl, inwL, tyL_ok, nmL⟩
theorem kl_L_39 : Cond.classLink RL 39 "RandomWalks" ∈ big := big_at 75 (by decide +kernel) rfl
theorem ml_L_103 : Cond.methodLink RL 103 yX10_init ∈ big := big_at 77 (by decide +kernel) rfl
theorem ml_X10_1 : Cond.methodLink RX10 1 Lib.objectInit ∈ big := big_at 80 (by decide +kernel) rfl
theorem kl_X10_13 : Cond.classLink RX10 13 "RandomWalks$Graph" ∈ big := big_at 83 (by decide +kernel) rfl
theorem mn_X10_15 : Cond.methodLinkNest RX10 15 yX3_init "RandomWalks" ∈ lw_tbl := List.mem_of_getElem? (i := 85) (by decide +kernel)
theorem ml_X3_3 : Cond.methodLink RX3 3 Lib.objectInit ∈ big := big_at 88 (by decide +kernel) rfl
theorem fn_X3_40 : Cond.fieldLinkNest RX3 40 "RandomWalks" "COST_ONE" "[I" "RandomWalks" ∈ lw_tbl := List.mem_of_getElem? (i := 89) (by decide +kernel)
theorem gf_X3_9 : Gf RX3 9 3 0 := ⟨_, _, _, _, clkX3, by decide, Or.inl (big_at 91 (by decide +kernel) rfl)⟩
theorem pf_X3_9 : Pf RX3 9 3 0 (.int) := ⟨_, _, _, _, clkX3, by decide, Or.inl (big_at 91 (by decide +kernel) rfl), rfl, by decide +kernel⟩
theorem gf_X7_32 : Gf RX7 32 3 0 := ⟨_, _, _, _, clkX3, by decide, Or.inr ⟨"RandomWalks", List.mem_of_getElem? (i := 92) (by decide +kernel)⟩⟩
theorem pf_X7_32 : Pf RX7 32 3 0 (.int) := ⟨_, _, _, _, clkX3, by decide, Or.inr ⟨"RandomWalks", List.mem_of_getElem? (i := 92) (by decide +kernel)⟩, rfl, by decide +kernel⟩
theorem gf_X1_54 : Gf RX1 54 3 0 := ⟨_, _, _, _, clkX3, by decide, Or.inr ⟨"RandomWalks", List.mem_of_getElem? (i := 93) (by decide +kernel)⟩⟩
theorem pf_X1_54 : Pf RX1 54 3 0 (.int) := ⟨_, _, _, _, clkX3, by decide, Or.inr ⟨"RandomWalks", List.mem_of_getElem? (i := 93) (by decide +kernel)⟩, rfl, by decide +kernel⟩
theorem gf_X8_54 : Gf RX8 54 3 0 := ⟨_, _, _, _, clkX3, by decide, Or.inr ⟨"RandomWalks", List.mem_of_getElem? (i := 94) (by decide +kernel)⟩⟩
theorem pf_X8_54 : Pf RX8 54 3 0 (.int) := ⟨_, _, _, _, clkX3, by decide, Or.inr ⟨"RandomWalks", List.mem_of_getElem? (i := 94) (by decide +kernel)⟩, rfl, by decide +kernel⟩
theorem gf_X6_149 : Gf RX6 149 3 0 := ⟨_, _, _, _, clkX3, by decide, Or.inr ⟨"RandomWalks", List.mem_of_getElem? (i := 95) (by decide +kernel)⟩⟩
theorem pf_X6_149 : Pf RX6 149 3 0 (.int) := ⟨_, _, _, _, clkX3, by decide, Or.inr ⟨"RandomWalks", List.mem_of_getElem? (i := 95) (by decide +kernel)⟩, rfl, by decide +kernel⟩
theorem gf_X10_127 : Gf RX10 127 3 0 := ⟨_, _, _, _, clkX3, by decide, Or.inr ⟨"RandomWalks", List.mem_of_getElem? (i := 96) (by decide +kernel)⟩⟩
theorem pf_X10_127 : Pf RX10 127 3 0 (.int) := ⟨_, _, _, _, clkX3, by decide, Or.inr ⟨"RandomWalks", List.mem_of_getElem? (i := 96) (by decide +kernel)⟩, rfl, by decide +kernel⟩
theorem gf_X3_15 : Gf RX3 15 3 1 := ⟨_, _, _, _, clkX3, by decide, Or.inl (big_at 97 (by decide +kernel) rfl)⟩
theorem pf_X3_15 : Pf RX3 15 3 1 (.int) := ⟨_, _, _, _, clkX3, by decide, Or.inl (big_at 97 (by decide +kernel) rfl), rfl, by decide +kernel⟩
theorem gf_X0_45 : Gf RX0 45 3 1 := ⟨_, _, _, _, clkX3, by decide, Or.inr ⟨"RandomWalks", List.mem_of_getElem? (i := 98) (by decide +kernel)⟩⟩
theorem pf_X0_45 : Pf RX0 45 3 1 (.int) := ⟨_, _, _, _, clkX3, by decide, Or.inr ⟨"RandomWalks", List.mem_of_getElem? (i := 98) (by decide +kernel)⟩, rfl, by decide +kernel⟩
theorem gf_X10_124 : Gf RX10 124 3 1 := ⟨_, _, _, _, clkX3, by decide, Or.inr ⟨"RandomWalks", List.mem_of_getElem? (i := 99) (by decide +kernel)⟩⟩
theorem pf_X10_124 : Pf RX10 124 3 1 (.int) := ⟨_, _, _, _, clkX3, by decide, Or.inr ⟨"RandomWalks", List.mem_of_getElem? (i := 99) (by decide +kernel)⟩, rfl, by decide +kernel⟩
theorem gf_X3_18 : Gf RX3 18 3 2 := ⟨_, _, _, _, clkX3, by decide, Or.inl (big_at 100 (by decide +kernel) rfl)⟩
theorem pf_X3_18 : Pf RX3 18 3 2 (.int) := ⟨_, _, _, _, clkX3, by decide, Or.inl (big_at 100 (by decide +kernel) rfl), rfl, by decide +kernel⟩
theorem gf_X6_112 : Gf RX6 112 3 2 := ⟨_, _, _, _, clkX3, by decide, Or.inr ⟨"RandomWalks", List.mem_of_getElem? (i := 101) (by decide +kernel)⟩⟩
theorem pf_X6_112 : Pf RX6 112 3 2 (.int) := ⟨_, _, _, _, clkX3, by decide, Or.inr ⟨"RandomWalks", List.mem_of_getElem? (i := 101) (by decide +kernel)⟩, rfl, by decide +kernel⟩
theorem gf_X10_197 : Gf RX10 197 3 2 := ⟨_, _, _, _, clkX3, by decide, Or.inr ⟨"RandomWalks", List.mem_of_getElem? (i := 102) (by decide +kernel)⟩⟩
theorem pf_X10_197 : Pf RX10 197 3 2 (.int) := ⟨_, _, _, _, clkX3, by decide, Or.inr ⟨"RandomWalks", List.mem_of_getElem? (i := 102) (by decide +kernel)⟩, rfl, by decide +kernel⟩
theorem gf_X3_21 : Gf RX3 21 3 3 := ⟨_, _, _, _, clkX3, by decide, Or.inl (big_at 103 (by decide +kernel) rfl)⟩
theorem pf_X3_21 : Pf RX3 21 3 3 (.int) := ⟨_, _, _, _, clkX3, by decide, Or.inl (big_at 103 (by decide +kernel) rfl), rfl, by decide +kernel⟩
theorem gf_X3_24 : Gf RX3 24 3 4 := ⟨_, _, _, _, clkX3, by decide, Or.inl (big_at 104 (by decide +kernel) rfl)⟩
theorem pff_X3_24 : Pff RX3 24 3 4 (.array .int) := ⟨_, _, _, _, clkX3, by decide, big_at 104 (by decide +kernel) rfl, rfl, rfl, by decide +kernel⟩
theorem gf_X0_49 : Gf RX0 49 3 4 := ⟨_, _, _, _, clkX3, by decide, Or.inr ⟨"RandomWalks", List.mem_of_getElem? (i := 105) (by decide +kernel)⟩⟩
theorem gf_X3_28 : Gf RX3 28 3 5 := ⟨_, _, _, _, clkX3, by decide, Or.inl (big_at 106 (by decide +kernel) rfl)⟩
theorem pff_X3_28 : Pff RX3 28 3 5 (.array .int) := ⟨_, _, _, _, clkX3, by decide, big_at 106 (by decide +kernel) rfl, rfl, rfl, by decide +kernel⟩
theorem gf_X0_52 : Gf RX0 52 3 5 := ⟨_, _, _, _, clkX3, by decide, Or.inr ⟨"RandomWalks", List.mem_of_getElem? (i := 107) (by decide +kernel)⟩⟩
theorem gf_X3_31 : Gf RX3 31 3 6 := ⟨_, _, _, _, clkX3, by decide, Or.inl (big_at 108 (by decide +kernel) rfl)⟩
theorem pff_X3_31 : Pff RX3 31 3 6 (.array .int) := ⟨_, _, _, _, clkX3, by decide, big_at 108 (by decide +kernel) rfl, rfl, rfl, by decide +kernel⟩
theorem gf_X3_34 : Gf RX3 34 3 7 := ⟨_, _, _, _, clkX3, by decide, Or.inl (big_at 109 (by decide +kernel) rfl)⟩
theorem pff_X3_34 : Pff RX3 34 3 7 (.array .int) := ⟨_, _, _, _, clkX3, by decide, big_at 109 (by decide +kernel) rfl, rfl, rfl, by decide +kernel⟩
theorem gf_X3_37 : Gf RX3 37 3 8 := ⟨_, _, _, _, clkX3, by decide, Or.inl (big_at 110 (by decide +kernel) rfl)⟩
theorem pff_X3_37 : Pff RX3 37 3 8 (.array .int) := ⟨_, _, _, _, clkX3, by decide, big_at 110 (by decide +kernel) rfl, rfl, rfl, by decide +kernel⟩
theorem gf_X3_43 : Gf RX3 43 3 9 := ⟨_, _, _, _, clkX3, by decide, Or.inl (big_at 111 (by decide +kernel) rfl)⟩
theorem pf_X3_43 : Pf RX3 43 3 9 (.array .int) := ⟨_, _, _, _, clkX3, by decide, Or.inl (big_at 111 (by decide +kernel) rfl), rfl, by decide +kernel⟩
theorem gf_X0_18 : Gf RX0 18 3 9 := ⟨_, _, _, _, clkX3, by decide, Or.inr ⟨"RandomWalks", List.mem_of_getElem? (i := 112) (by decide +kernel)⟩⟩
theorem pf_X0_18 : Pf RX0 18 3 9 (.array .int) := ⟨_, _, _, _, clkX3, by decide, Or.inr ⟨"RandomWalks", List.mem_of_getElem? (i := 112) (by decide +kernel)⟩, rfl, by decide +kernel⟩
theorem gf_X6_138 : Gf RX6 138 3 9 := ⟨_, _, _, _, clkX3, by decide, Or.inr ⟨"RandomWalks", List.mem_of_getElem? (i := 113) (by decide +kernel)⟩⟩
theorem pf_X6_138 : Pf RX6 138 3 9 (.array .int) := ⟨_, _, _, _, clkX3, by decide, Or.inr ⟨"RandomWalks", List.mem_of_getElem? (i := 113) (by decide +kernel)⟩, rfl, by decide +kernel⟩
theorem ac_int : Cond.arrayClass .int ∈ big := big_at 135 (by decide +kernel) rfl
theorem kl_X10_20 : Cond.classLink RX10 20 "RandomWalks$History" ∈ big := big_at 136 (by decide +kernel) rfl
theorem ml_X10_22 : Cond.methodLink RX10 22 yX4_init ∈ big := big_at 138 (by decide +kernel) rfl
theorem ml_X4_3 : Cond.methodLink RX4 3 Lib.objectInit ∈ big := big_at 141 (by decide +kernel) rfl
theorem kl_X4_9 : Cond.classLink RX4 9 "RandomWalks$Graph" ∈ big := big_at 142 (by decide +kernel) rfl
theorem mn_X4_24 : Cond.methodLinkNest RX4 24 yX3_init "RandomWalks" ∈ lw_tbl := List.mem_of_getElem? (i := 144) (by decide +kernel)
theorem gf_X4_11 : Gf RX4 11 4 0 := ⟨_, _, _, _, clkX4, by decide, Or.inl (big_at 145 (by decide +kernel) rfl)⟩
theorem pff_X4_11 : Pff RX4 11 4 0 (.array (.object "RandomWalks$Graph")) := ⟨_, _, _, _, clkX4, by decide, big_at 145 (by decide +kernel) rfl, rfl, rfl, by decide +kernel⟩
theorem gf_X4_17 : Gf RX4 17 4 1 := ⟨_, _, _, _, clkX4, by decide, Or.inl (big_at 146 (by decide +kernel) rfl)⟩
theorem pf_X4_17 : Pf RX4 17 4 1 (.int) := ⟨_, _, _, _, clkX4, by decide, Or.inl (big_at 146 (by decide +kernel) rfl), rfl, by decide +kernel⟩
theorem gf_X4_21 : Gf RX4 21 4 2 := ⟨_, _, _, _, clkX4, by decide, Or.inl (big_at 147 (by decide +kernel) rfl)⟩
theorem pf_X4_21 : Pf RX4 21 4 2 (.int) := ⟨_, _, _, _, clkX4, by decide, Or.inl (big_at 147 (by decide +kernel) rfl), rfl, by decide +kernel⟩
theorem kl_X10_27 : Cond.classLink RX10 27 "RandomWalks$Reader" ∈ big := big_at 155 (by decide +kernel) rfl
theorem mn_X10_29 : Cond.methodLinkNest RX10 29 yX6_init "RandomWalks" ∈ lw_tbl := List.mem_of_getElem? (i := 157) (by decide +kernel)
theorem ml_X6_3 : Cond.methodLink RX6 3 Lib.objectInit ∈ big := big_at 160 (by decide +kernel) rfl
theorem kl_X6_9 : Cond.classLink RX6 9 "RandomWalks$Tokens" ∈ big := big_at 161 (by decide +kernel) rfl
theorem mn_X6_11 : Cond.methodLinkNest RX6 11 yX9_init "RandomWalks" ∈ lw_tbl := List.mem_of_getElem? (i := 163) (by decide +kernel)
theorem ml_X9_3 : Cond.methodLink RX9 3 Lib.objectInit ∈ big := big_at 166 (by decide +kernel) rfl
theorem gf_X9_9 : Gf RX9 9 9 0 := ⟨_, _, _, _, clkX9, by decide, Or.inl (big_at 167 (by decide +kernel) rfl)⟩
theorem pff_X9_9 : Pff RX9 9 9 0 (.array .byte) := ⟨_, _, _, _, clkX9, by decide, big_at 167 (by decide +kernel) rfl, rfl, rfl, by decide +kernel⟩
theorem gf_X9_15 : Gf RX9 15 9 1 := ⟨_, _, _, _, clkX9, by decide, Or.inl (big_at 168 (by decide +kernel) rfl)⟩
theorem pf_X9_15 : Pf RX9 15 9 1 (.int) := ⟨_, _, _, _, clkX9, by decide, Or.inl (big_at 168 (by decide +kernel) rfl), rfl, by decide +kernel⟩
theorem gf_X10_87 : Gf RX10 87 9 1 := ⟨_, _, _, _, clkX9, by decide, Or.inr ⟨"RandomWalks", List.mem_of_getElem? (i := 169) (by decide +kernel)⟩⟩
theorem pf_X10_87 : Pf RX10 87 9 1 (.int) := ⟨_, _, _, _, clkX9, by decide, Or.inr ⟨"RandomWalks", List.mem_of_getElem? (i := 169) (by decide +kernel)⟩, rfl, by decide +kernel⟩
theorem gf_X9_19 : Gf RX9 19 9 2 := ⟨_, _, _, _, clkX9, by decide, Or.inl (big_at 170 (by decide +kernel) rfl)⟩
theorem pff_X9_19 : Pff RX9 19 9 2 (.array .int) := ⟨_, _, _, _, clkX9, by decide, big_at 170 (by decide +kernel) rfl, rfl, rfl, by decide +kernel⟩
theorem gf_X6_152 : Gf RX6 152 9 2 := ⟨_, _, _, _, clkX9, by decide, Or.inr ⟨"RandomWalks", List.mem_of_getElem? (i := 171) (by decide +kernel)⟩⟩
theorem gf_X9_23 : Gf RX9 23 9 3 := ⟨_, _, _, _, clkX9, by decide, Or.inl (big_at 172 (by decide +kernel) rfl)⟩
theorem pff_X9_23 : Pff RX9 23 9 3 (.array .int) := ⟨_, _, _, _, clkX9, by decide, big_at 172 (by decide +kernel) rfl, rfl, rfl, by decide +kernel⟩
theorem gf_X6_155 : Gf RX6 155 9 3 := ⟨_, _, _, _, clkX9, by decide, Or.inr ⟨"RandomWalks", List.mem_of_getElem? (i := 173) (by decide +kernel)⟩⟩
theorem gf_X9_26 : Gf RX9 26 9 4 := ⟨_, _, _, _, clkX9, by decide, Or.inl (big_at 174 (by decide +kernel) rfl)⟩
theorem pff_X9_26 : Pff RX9 26 9 4 (.array .int) := ⟨_, _, _, _, clkX9, by decide, big_at 174 (by decide +kernel) rfl, rfl, rfl, by decide +kernel⟩
theorem gf_X6_158 : Gf RX6 158 9 4 := ⟨_, _, _, _, clkX9, by decide, Or.inr ⟨"RandomWalks", List.mem_of_getElem? (i := 175) (by decide +kernel)⟩⟩
theorem gf_X9_29 : Gf RX9 29 9 5 := ⟨_, _, _, _, clkX9, by decide, Or.inl (big_at 176 (by decide +kernel) rfl)⟩
theorem pf_X9_29 : Pf RX9 29 9 5 (.int) := ⟨_, _, _, _, clkX9, by decide, Or.inl (big_at 176 (by decide +kernel) rfl), rfl, by decide +kernel⟩
theorem gf_X6_80 : Gf RX6 80 9 5 := ⟨_, _, _, _, clkX9, by decide, Or.inr ⟨"RandomWalks", List.mem_of_getElem? (i := 177) (by decide +kernel)⟩⟩
theorem pf_X6_80 : Pf RX6 80 9 5 (.int) := ⟨_, _, _, _, clkX9, by decide, Or.inr ⟨"RandomWalks", List.mem_of_getElem? (i := 177) (by decide +kernel)⟩, rfl, by decide +kernel⟩
theorem ac_byte : Cond.arrayClass .byte ∈ big := big_at 191 (by decide +kernel) rfl
theorem kl_X6_18 : Cond.classLink RX6 18 "RandomWalks$Graph" ∈ big := big_at 192 (by decide +kernel) rfl
theorem mn_X6_20 : Cond.methodLinkNest RX6 20 yX3_init "RandomWalks" ∈ lw_tbl := List.mem_of_getElem? (i := 193) (by decide +kernel)
theorem gf_X6_12 : Gf RX6 12 6 0 := ⟨_, _, _, _, clkX6, by decide, Or.inl (big_at 194 (by decide +kernel) rfl)⟩
theorem pff_X6_12 : Pff RX6 12 6 0 (.object "RandomWalks$Tokens") := ⟨_, _, _, _, clkX6, by decide, big_at 194 (by decide +kernel) rfl, rfl, rfl, by decide +kernel⟩
theorem gf_X10_83 : Gf RX10 83 6 0 := ⟨_, _, _, _, clkX6, by decide, Or.inr ⟨"RandomWalks", List.mem_of_getElem? (i := 195) (by decide +kernel)⟩⟩
theorem gf_X6_21 : Gf RX6 21 6 1 := ⟨_, _, _, _, clkX6, by decide, Or.inl (big_at 196 (by decide +kernel) rfl)⟩
theorem pff_X6_21 : Pff RX6 21 6 1 (.object "RandomWalks$Graph") := ⟨_, _, _, _, clkX6, by decide, big_at 196 (by decide +kernel) rfl, rfl, rfl, by decide +kernel⟩
theorem gf_X10_118 : Gf RX10 118 6 1 := ⟨_, _, _, _, clkX6, by decide, Or.inr ⟨"RandomWalks", List.mem_of_getElem? (i := 197) (by decide +kernel)⟩⟩
theorem gf_X6_25 : Gf RX6 25 6 2 := ⟨_, _, _, _, clkX6, by decide, Or.inl (big_at 198 (by decide +kernel) rfl)⟩
theorem pf_X6_25 : Pf RX6 25 6 2 (.int) := ⟨_, _, _, _, clkX6, by decide, Or.inl (big_at 198 (by decide +kernel) rfl), rfl, by decide +kernel⟩
theorem gf_X10_111 : Gf RX10 111 6 2 := ⟨_, _, _, _, clkX6, by decide, Or.inr ⟨"RandomWalks", List.mem_of_getElem? (i := 199) (by decide +kernel)⟩⟩
theorem pf_X10_111 : Pf RX10 111 6 2 (.int) := ⟨_, _, _, _, clkX6, by decide, Or.inr ⟨"RandomWalks", List.mem_of_getElem? (i := 199) (by decide +kernel)⟩, rfl, by decide +kernel⟩
theorem gf_X6_29 : Gf RX6 29 6 3 := ⟨_, _, _, _, clkX6, by decide, Or.inl (big_at 200 (by decide +kernel) rfl)⟩
theorem pf_X6_29 : Pf RX6 29 6 3 (.int) := ⟨_, _, _, _, clkX6, by decide, Or.inl (big_at 200 (by decide +kernel) rfl), rfl, by decide +kernel⟩
theorem gf_X10_110 : Gf RX10 110 6 3 := ⟨_, _, _, _, clkX6, by decide, Or.inr ⟨"RandomWalks", List.mem_of_getElem? (i := 201) (by decide +kernel)⟩⟩
theorem pf_X10_110 : Pf RX10 110 6 3 (.int) := ⟨_, _, _, _, clkX6, by decide, Or.inr ⟨"RandomWalks", List.mem_of_getElem? (i := 201) (by decide +kernel)⟩, rfl, by decide +kernel⟩
theorem gf_X6_32 : Gf RX6 32 6 4 := ⟨_, _, _, _, clkX6, by decide, Or.inl (big_at 202 (by decide +kernel) rfl)⟩
theorem pf_X6_32 : Pf RX6 32 6 4 (.int) := ⟨_, _, _, _, clkX6, by decide, Or.inl (big_at 202 (by decide +kernel) rfl), rfl, by decide +kernel⟩
theorem gf_X6_35 : Gf RX6 35 6 5 := ⟨_, _, _, _, clkX6, by decide, Or.inl (big_at 203 (by decide +kernel) rfl)⟩
theorem pf_X6_35 : Pf RX6 35 6 5 (.int) := ⟨_, _, _, _, clkX6, by decide, Or.inl (big_at 203 (by decide +kernel) rfl), rfl, by decide +kernel⟩
theorem gf_X6_38 : Gf RX6 38 6 6 := ⟨_, _, _, _, clkX6, by decide, Or.inl (big_at 204 (by decide +kernel) rfl)⟩
theorem pf_X6_38 : Pf RX6 38 6 6 (.int) := ⟨_, _, _, _, clkX6, by decide, Or.inl (big_at 204 (by decide +kernel) rfl), rfl, by decide +kernel⟩
theorem gf_X6_41 : Gf RX6 41 6 7 := ⟨_, _, _, _, clkX6, by decide, Or.inl (big_at 205 (by decide +kernel) rfl)⟩
theorem pf_X6_41 : Pf RX6 41 6 7 (.int) := ⟨_, _, _, _, clkX6, by decide, Or.inl (big_at 205 (by decide +kernel) rfl), rfl, by decide +kernel⟩
theorem gf_X6_44 : Gf RX6 44 6 8 := ⟨_, _, _, _, clkX6, by decide, Or.inl (big_at 206 (by decide +kernel) rfl)⟩
theorem pf_X6_44 : Pf RX6 44 6 8 (.boolean) := ⟨_, _, _, _, clkX6, by decide, Or.inl (big_at 206 (by decide +kernel) rfl), rfl, by decide +kernel⟩
theorem gf_X6_48 : Gf RX6 48 6 9 := ⟨_, _, _, _, clkX6, by decide, Or.inl (big_at 207 (by decide +kernel) rfl)⟩
theorem pff_X6_48 : Pff RX6 48 6 9 (.array .int) := ⟨_, _, _, _, clkX6, by decide, big_at 207 (by decide +kernel) rfl, rfl, rfl, by decide +kernel⟩
theorem gf_X6_52 : Gf RX6 52 6 10 := ⟨_, _, _, _, clkX6, by decide, Or.inl (big_at 208 (by decide +kernel) rfl)⟩
theorem pf_X6_52 : Pf RX6 52 6 10 (.int) := ⟨_, _, _, _, clkX6, by decide, Or.inl (big_at 208 (by decide +kernel) rfl), rfl, by decide +kernel⟩
theorem gf_X6_55 : Gf RX6 55 6 11 := ⟨_, _, _, _, clkX6, by decide, Or.inl (big_at 209 (by decide +kernel) rfl)⟩
theorem pff_X6_55 : Pff RX6 55 6 11 (.array .int) := ⟨_, _, _, _, clkX6, by decide, big_at 209 (by decide +kernel) rfl, rfl, rfl, by decide +kernel⟩
theorem gf_X6_58 : Gf RX6 58 6 12 := ⟨_, _, _, _, clkX6, by decide, Or.inl (big_at 210 (by decide +kernel) rfl)⟩
theorem pf_X6_58 : Pf RX6 58 6 12 (.int) := ⟨_, _, _, _, clkX6, by decide, Or.inl (big_at 210 (by decide +kernel) rfl), rfl, by decide +kernel⟩
theorem kl_X10_34 : Cond.classLink RX10 34 "RandomWalks$Costs" ∈ big := big_at 238 (by decide +kernel) rfl
theorem mn_X10_36 : Cond.methodLinkNest RX10 36 yX0_init "RandomWalks" ∈ lw_tbl := List.mem_of_getElem? (i := 240) (by decide +kernel)
theorem ml_X0_3 : Cond.methodLink RX0 3 Lib.objectInit ∈ big := big_at 243 (by decide +kernel) rfl
theorem gf_X0_9 : Gf RX0 9 0 0 := ⟨_, _, _, _, clkX0, by decide, Or.inl (big_at 244 (by decide +kernel) rfl)⟩
theorem pff_X0_9 : Pff RX0 9 0 0 (.array .int) := ⟨_, _, _, _, clkX0, by decide, big_at 244 (by decide +kernel) rfl, rfl, rfl, by decide +kernel⟩
theorem gf_X0_15 : Gf RX0 15 0 1 := ⟨_, _, _, _, clkX0, by decide, Or.inl (big_at 245 (by decide +kernel) rfl)⟩
theorem pff_X0_15 : Pff RX0 15 0 1 (.array .int) := ⟨_, _, _, _, clkX0, by decide, big_at 245 (by decide +kernel) rfl, rfl, rfl, by decide +kernel⟩
theorem kl_X10_41 : Cond.classLink RX10 41 "RandomWalks$Partition" ∈ big := big_at 251 (by decide +kernel) rfl
theorem mn_X10_43 : Cond.methodLinkNest RX10 43 yX5_init "RandomWalks" ∈ lw_tbl := List.mem_of_getElem? (i := 253) (by decide +kernel)
theorem ml_X5_3 : Cond.methodLink RX5 3 Lib.objectInit ∈ big := big_at 256 (by decide +kernel) rfl
theorem kl_X5_9 : Cond.classLink RX5 9 "RandomWalks$Graph" ∈ big := big_at 257 (by decide +kernel) rfl
theorem mn_X5_11 : Cond.methodLinkNest RX5 11 yX3_init "RandomWalks" ∈ lw_tbl := List.mem_of_getElem? (i := 258) (by decide +kernel)
theorem gf_X5_12 : Gf RX5 12 5 0 := ⟨_, _, _, _, clkX5, by decide, Or.inl (big_at 259 (by decide +kernel) rfl)⟩
theorem pff_X5_12 : Pff RX5 12 5 0 (.object "RandomWalks$Graph") := ⟨_, _, _, _, clkX5, by decide, big_at 259 (by decide +kernel) rfl, rfl, rfl, by decide +kernel⟩
theorem gf_X5_18 : Gf RX5 18 5 1 := ⟨_, _, _, _, clkX5, by decide, Or.inl (big_at 260 (by decide +kernel) rfl)⟩
theorem pff_X5_18 : Pff RX5 18 5 1 (.array .long) := ⟨_, _, _, _, clkX5, by decide, big_at 260 (by decide +kernel) rfl, rfl, rfl, by decide +kernel⟩
theorem gf_X5_22 : Gf RX5 22 5 2 := ⟨_, _, _, _, clkX5, by decide, Or.inl (big_at 261 (by decide +kernel) rfl)⟩
theorem pff_X5_22 : Pff RX5 22 5 2 (.array .int) := ⟨_, _, _, _, clkX5, by decide, big_at 261 (by decide +kernel) rfl, rfl, rfl, by decide +kernel⟩
theorem ac_long : Cond.arrayClass .long ∈ big := big_at 269 (by decide +kernel) rfl
theorem kl_X10_48 : Cond.classLink RX10 48 "RandomWalks$Equations" ∈ big := big_at 270 (by decide +kernel) rfl
theorem mn_X10_50 : Cond.methodLinkNest RX10 50 yX1_init "RandomWalks" ∈ lw_tbl := List.mem_of_getElem? (i := 272) (by decide +kernel)
theorem ml_X1_3 : Cond.methodLink RX1 3 Lib.objectInit ∈ big := big_at 275 (by decide +kernel) rfl
theorem gf_X1_11 : Gf RX1 11 1 0 := ⟨_, _, _, _, clkX1, by decide, Or.inl (big_at 276 (by decide +kernel) rfl)⟩
theorem pff_X1_11 : Pff RX1 11 1 0 (.array .long) := ⟨_, _, _, _, clkX1, by decide, big_at 276 (by decide +kernel) rfl, rfl, rfl, by decide +kernel⟩
theorem gf_X1_15 : Gf RX1 15 1 1 := ⟨_, _, _, _, clkX1, by decide, Or.inl (big_at 277 (by decide +kernel) rfl)⟩
theorem pff_X1_15 : Pff RX1 15 1 1 (.array .int) := ⟨_, _, _, _, clkX1, by decide, big_at 277 (by decide +kernel) rfl, rfl, rfl, by decide +kernel⟩
theorem gf_X1_19 : Gf RX1 19 1 2 := ⟨_, _, _, _, clkX1, by decide, Or.inl (big_at 278 (by decide +kernel) rfl)⟩
theorem pff_X1_19 : Pff RX1 19 1 2 (.array .long) := ⟨_, _, _, _, clkX1, by decide, big_at 278 (by decide +kernel) rfl, rfl, rfl, by decide +kernel⟩
theorem gf_X1_22 : Gf RX1 22 1 3 := ⟨_, _, _, _, clkX1, by decide, Or.inl (big_at 279 (by decide +kernel) rfl)⟩
theorem pf_X1_22 : Pf RX1 22 1 3 (.int) := ⟨_, _, _, _, clkX1, by decide, Or.inl (big_at 279 (by decide +kernel) rfl), rfl, by decide +kernel⟩
theorem kl_X10_55 : Cond.classLink RX10 55 "RandomWalks$Fraction" ∈ big := big_at 289 (by decide +kernel) rfl
theorem mn_X10_57 : Cond.methodLinkNest RX10 57 yX2_init "RandomWalks" ∈ lw_tbl := List.mem_of_getElem? (i := 291) (by decide +kernel)
theorem ml_X2_1 : Cond.methodLink RX2 1 Lib.objectInit ∈ big := big_at 294 (by decide +kernel) rfl
theorem gf_X2_7 : Gf RX2 7 2 0 := ⟨_, _, _, _, clkX2, by decide, Or.inl (big_at 295 (by decide +kernel) rfl)⟩
theorem pf_X2_7 : Pf RX2 7 2 0 (.long) := ⟨_, _, _, _, clkX2, by decide, Or.inl (big_at 295 (by decide +kernel) rfl), rfl, by decide +kernel⟩
theorem gf_X7_52 : Gf RX7 52 2 0 := ⟨_, _, _, _, clkX2, by decide, Or.inr ⟨"RandomWalks", List.mem_of_getElem? (i := 296) (by decide +kernel)⟩⟩
theorem pf_X7_52 : Pf RX7 52 2 0 (.long) := ⟨_, _, _, _, clkX2, by decide, Or.inr ⟨"RandomWalks", List.mem_of_getElem? (i := 296) (by decide +kernel)⟩, rfl, by decide +kernel⟩
theorem gf_X2_13 : Gf RX2 13 2 1 := ⟨_, _, _, _, clkX2, by decide, Or.inl (big_at 297 (by decide +kernel) rfl)⟩
theorem pf_X2_13 : Pf RX2 13 2 1 (.long) := ⟨_, _, _, _, clkX2, by decide, Or.inl (big_at 297 (by decide +kernel) rfl), rfl, by decide +kernel⟩
theorem gf_X7_56 : Gf RX7 56 2 1 := ⟨_, _, _, _, clkX2, by decide, Or.inr ⟨"RandomWalks", List.mem_of_getElem? (i := 298) (by decide +kernel)⟩⟩
theorem pf_X7_56 : Pf RX7 56 2 1 (.long) := ⟨_, _, _, _, clkX2, by decide, Or.inr ⟨"RandomWalks", List.mem_of_getElem? (i := 298) (by decide +kernel)⟩, rfl, by decide +kernel⟩
theorem kl_X10_69 : Cond.classLink RX10 69 "RandomWalks$Stroll" ∈ big := big_at 304 (by decide +kernel) rfl
theorem mn_X10_71 : Cond.methodLinkNest RX10 71 yX8_init "RandomWalks" ∈ lw_tbl := List.mem_of_getElem? (i := 306) (by decide +kernel)
theorem ml_X8_1 : Cond.methodLink RX8 1 Lib.objectInit ∈ big := big_at 309 (by decide +kernel) rfl
theorem gf_X8_7 : Gf RX8 7 8 0 := ⟨_, _, _, _, clkX8, by decide, Or.inl (big_at 310 (by decide +kernel) rfl)⟩
theorem pf_X8_7 : Pf RX8 7 8 0 (.long) := ⟨_, _, _, _, clkX8, by decide, Or.inl (big_at 310 (by decide +kernel) rfl), rfl, by decide +kernel⟩
theorem gf_X8_13 : Gf RX8 13 8 1 := ⟨_, _, _, _, clkX8, by decide, Or.inl (big_at 311 (by decide +kernel) rfl)⟩
theorem pf_X8_13 : Pf RX8 13 8 1 (.int) := ⟨_, _, _, _, clkX8, by decide, Or.inl (big_at 311 (by decide +kernel) rfl), rfl, by decide +kernel⟩
theorem gf_X8_17 : Gf RX8 17 8 2 := ⟨_, _, _, _, clkX8, by decide, Or.inl (big_at 312 (by decide +kernel) rfl)⟩
theorem pf_X8_17 : Pf RX8 17 8 2 (.int) := ⟨_, _, _, _, clkX8, by decide, Or.inl (big_at 312 (by decide +kernel) rfl), rfl, by decide +kernel⟩
theorem gf_X8_20 : Gf RX8 20 8 3 := ⟨_, _, _, _, clkX8, by decide, Or.inl (big_at 313 (by decide +kernel) rfl)⟩
theorem pf_X8_20 : Pf RX8 20 8 3 (.int) := ⟨_, _, _, _, clkX8, by decide, Or.inl (big_at 313 (by decide +kernel) rfl), rfl, by decide +kernel⟩
theorem gf_X8_23 : Gf RX8 23 8 4 := ⟨_, _, _, _, clkX8, by decide, Or.inl (big_at 314 (by decide +kernel) rfl)⟩
theorem pf_X8_23 : Pf RX8 23 8 4 (.int) := ⟨_, _, _, _, clkX8, by decide, Or.inl (big_at 314 (by decide +kernel) rfl), rfl, by decide +kernel⟩
theorem kl_X10_76 : Cond.classLink RX10 76 "RandomWalks$Spread" ∈ big := big_at 326 (by decide +kernel) rfl
theorem mn_X10_78 : Cond.methodLinkNest RX10 78 yX7_init "RandomWalks" ∈ lw_tbl := List.mem_of_getElem? (i := 328) (by decide +kernel)
theorem ml_X7_3 : Cond.methodLink RX7 3 Lib.objectInit ∈ big := big_at 331 (by decide +kernel) rfl
theorem kl_X7_21 : Cond.classLink RX7 21 "RandomWalks$Fraction" ∈ big := big_at 332 (by decide +kernel) rfl
theorem mn_X7_23 : Cond.methodLinkNest RX7 23 yX2_init "RandomWalks" ∈ lw_tbl := List.mem_of_getElem? (i := 333) (by decide +kernel)
theorem gf_X7_9 : Gf RX7 9 7 0 := ⟨_, _, _, _, clkX7, by decide, Or.inl (big_at 334 (by decide +kernel) rfl)⟩
theorem pff_X7_9 : Pff RX7 9 7 0 (.array .float) := ⟨_, _, _, _, clkX7, by decide, big_at 334 (by decide +kernel) rfl, rfl, rfl, by decide +kernel⟩
theorem gf_X7_15 : Gf RX7 15 7 1 := ⟨_, _, _, _, clkX7, by decide, Or.inl (big_at 335 (by decide +kernel) rfl)⟩
theorem pff_X7_15 : Pff RX7 15 7 1 (.array .float) := ⟨_, _, _, _, clkX7, by decide, big_at 335 (by decide +kernel) rfl, rfl, rfl, by decide +kernel⟩
theorem gf_X7_18 : Gf RX7 18 7 2 := ⟨_, _, _, _, clkX7, by decide, Or.inl (big_at 336 (by decide +kernel) rfl)⟩
theorem pff_X7_18 : Pff RX7 18 7 2 (.array .float) := ⟨_, _, _, _, clkX7, by decide, big_at 336 (by decide +kernel) rfl, rfl, rfl, by decide +kernel⟩
theorem gf_X7_24 : Gf RX7 24 7 3 := ⟨_, _, _, _, clkX7, by decide, Or.inl (big_at 337 (by decide +kernel) rfl)⟩
theorem pff_X7_24 : Pff RX7 24 7 3 (.object "RandomWalks$Fraction") := ⟨_, _, _, _, clkX7, by decide, big_at 337 (by decide +kernel) rfl, rfl, rfl, by decide +kernel⟩
theorem ac_float : Cond.arrayClass .float ∈ big := big_at 347 (by decide +kernel) rfl
theorem gf_X10_7 : Gf RX10 7 10 0 := ⟨_, _, _, _, clkX10, by decide, Or.inl (big_at 348 (by decide +kernel) rfl)⟩
theorem pf_X10_7 : Pf RX10 7 10 0 (.int) := ⟨_, _, _, _, clkX10, by decide, Or.inl (big_at 348 (by decide +kernel) rfl), rfl, by decide +kernel⟩
theorem gf_X10_16 : Gf RX10 16 10 1 := ⟨_, _, _, _, clkX10, by decide, Or.inl (big_at 349 (by decide +kernel) rfl)⟩
theorem pff_X10_16 : Pff RX10 16 10 1 (.object "RandomWalks$Graph") := ⟨_, _, _, _, clkX10, by decide, big_at 349 (by decide +kernel) rfl, rfl, rfl, by decide +kernel⟩
theorem gf_X10_23 : Gf RX10 23 10 2 := ⟨_, _, _, _, clkX10, by decide, Or.inl (big_at 350 (by decide +kernel) rfl)⟩
theorem pff_X10_23 : Pff RX10 23 10 2 (.object "RandomWalks$History") := ⟨_, _, _, _, clkX10, by decide, big_at 350 (by decide +kernel) rfl, rfl, rfl, by decide +kernel⟩
theorem gf_X10_30 : Gf RX10 30 10 3 := ⟨_, _, _, _, clkX10, by decide, Or.inl (big_at 351 (by decide +kernel) rfl)⟩
theorem pff_X10_30 : Pff RX10 30 10 3 (.object "RandomWalks$Reader") := ⟨_, _, _, _, clkX10, by decide, big_at 351 (by decide +kernel) rfl, rfl, rfl, by decide +kernel⟩
theorem gf_X10_37 : Gf RX10 37 10 4 := ⟨_, _, _, _, clkX10, by decide, Or.inl (big_at 352 (by decide +kernel) rfl)⟩
theorem pff_X10_37 : Pff RX10 37 10 4 (.object "RandomWalks$Costs") := ⟨_, _, _, _, clkX10, by decide, big_at 352 (by decide +kernel) rfl, rfl, rfl, by decide +kernel⟩
theorem gf_X10_44 : Gf RX10 44 10 5 := ⟨_, _, _, _, clkX10, by decide, Or.inl (big_at 353 (by decide +kernel) rfl)⟩
theorem pff_X10_44 : Pff RX10 44 10 5 (.object "RandomWalks$Partition") := ⟨_, _, _, _, clkX10, by decide, big_at 353 (by decide +kernel) rfl, rfl, rfl, by decide +kernel⟩
theorem gf_X10_51 : Gf RX10 51 10 6 := ⟨_, _, _, _, clkX10, by decide, Or.inl (big_at 354 (by decide +kernel) rfl)⟩
theorem pff_X10_51 : Pff RX10 51 10 6 (.object "RandomWalks$Equations") := ⟨_, _, _, _, clkX10, by decide, big_at 354 (by decide +kernel) rfl, rfl, rfl, by decide +kernel⟩
theorem gf_X10_58 : Gf RX10 58 10 7 := ⟨_, _, _, _, clkX10, by decide, Or.inl (big_at 355 (by decide +kernel) rfl)⟩
theorem pff_X10_58 : Pff RX10 58 10 7 (.object "RandomWalks$Fraction") := ⟨_, _, _, _, clkX10, by decide, big_at 355 (by decide +kernel) rfl, rfl, rfl, by decide +kernel⟩
theorem gf_X10_62 : Gf RX10 62 10 8 := ⟨_, _, _, _, clkX10, by decide, Or.inl (big_at 356 (by decide +kernel) rfl)⟩
theorem pff_X10_62 : Pff RX10 62 10 8 (.object "RandomWalks$Fraction") := ⟨_, _, _, _, clkX10, by decide, big_at 356 (by decide +kernel) rfl, rfl, rfl, by decide +kernel⟩
theorem gf_X10_65 : Gf RX10 65 10 9 := ⟨_, _, _, _, clkX10, by decide, Or.inl (big_at 357 (by decide +kernel) rfl)⟩
theorem pff_X10_65 : Pff RX10 65 10 9 (.array .long) := ⟨_, _, _, _, clkX10, by decide, big_at 357 (by decide +kernel) rfl, rfl, rfl, by decide +kernel⟩
theorem gf_X10_72 : Gf RX10 72 10 10 := ⟨_, _, _, _, clkX10, by decide, Or.inl (big_at 358 (by decide +kernel) rfl)⟩
theorem pff_X10_72 : Pff RX10 72 10 10 (.object "RandomWalks$Stroll") := ⟨_, _, _, _, clkX10, by decide, big_at 358 (by decide +kernel) rfl, rfl, rfl, by decide +kernel⟩
theorem gf_X10_79 : Gf RX10 79 10 11 := ⟨_, _, _, _, clkX10, by decide, Or.inl (big_at 359 (by decide +kernel) rfl)⟩
theorem pff_X10_79 : Pff RX10 79 10 11 (.object "RandomWalks$Spread") := ⟨_, _, _, _, clkX10, by decide, big_at 359 (by decide +kernel) rfl, rfl, rfl, by decide +kernel⟩
theorem ml_L_160 : Cond.methodLink RL 160 yX10_degree ∈ big := big_at 385 (by decide +kernel) rfl
theorem ml_X10_150 : Cond.methodLink RX10 150 yX10_requireVertex ∈ big := big_at 389 (by decide +kernel) rfl
theorem kl_X10_309 : Cond.classLink RX10 309 "java/lang/IndexOutOfBoundsException" ∈ big := big_at 393 (by decide +kernel) rfl
theorem ml_X10_313 : Cond.methodLink RX10 313 ⟨"java/lang/IndexOutOfBoundsException", "<init>", "(Ljava/lang/String;)V"⟩ ∈ big := big_at 435 (by decide +kernel) rfl
theorem ml_X10_153 : Cond.methodLink RX10 153 yX3_sumOfWeights ∈ big := big_at 460 (by decide +kernel) rfl
theorem ml_X3_71 : Cond.methodLink RX3 71 yX3_weightBetween ∈ big := big_at 464 (by decide +kernel) rfl
theorem ml_L_167 : Cond.methodLink RL 167 yX10_trees ∈ big := big_at 468 (by decide +kernel) rfl
theorem ml_X10_193 : Cond.methodLink RX10 193 yX10_countTrees ∈ big := big_at 472 (by decide +kernel) rfl
theorem ml_X10_333 : Cond.methodLink RX10 333 yX1_treesOf ∈ big := big_at 476 (by decide +kernel) rfl
theorem ml_X1_42 : Cond.methodLink RX1 42 yX1_build ∈ big := big_at 480 (by decide +kernel) rfl
theorem ml_X1_57 : Cond.methodLink RX1 57 yX3_sumOfWeights ∈ big := big_at 484 (by decide +kernel) rfl
theorem ml_X1_60 : Cond.methodLink RX1 60 yX3_weightBetween ∈ big := big_at 485 (by decide +kernel) rfl
theorem ml_X1_64 : Cond.methodLink RX1 64 yX1_putCell ∈ big := big_at 486 (by decide +kernel) rfl
theorem ml_X1_46 : Cond.methodLink RX1 46 yX1_eliminate ∈ big := big_at 490 (by decide +kernel) rfl
theorem ml_X1_50 : Cond.methodLink RX1 50 yX1_cell ∈ big := big_at 494 (by decide +kernel) rfl
theorem ml_L_154 : Cond.methodLink RL 154 yX10_absorbing ∈ big := big_at 498 (by decide +kernel) rfl
theorem ml_L_171 : Cond.methodLink RL 171 yX10_after ∈ big := big_at 502 (by decide +kernel) rfl
theorem kl_X10_96 : Cond.classLink RX10 96 "java/lang/IllegalArgumentException" ∈ big := big_at 506 (by decide +kernel) rfl
theorem ml_X10_100 : Cond.methodLink RX10 100 ⟨"java/lang/IllegalArgumentException", "<init>", "(Ljava/lang/String;)V"⟩ ∈ big := big_at 516 (by decide +kernel) rfl
theorem ml_X10_258 : Cond.methodLink RX10 258 yX7_chanceAfter ∈ big := big_at 522 (by decide +kernel) rfl
theorem ml_X7_28 : Cond.methodLink RX7 28 yX7_fillChances ∈ big := big_at 526 (by decide +kernel) rfl
theorem ml_X7_48 : Cond.methodLink RX7 48 yX3_stepChance ∈ big := big_at 530 (by decide +kernel) rfl
theorem ml_X3_81 : Cond.methodLink RX3 81 yX3_sumOfWeights ∈ big := big_at 534 (by decide +kernel) rfl
theorem ml_X3_84 : Cond.methodLink RX3 84 yX2_put ∈ big := big_at 535 (by decide +kernel) rfl
theorem ml_X2_16 : Cond.methodLink RX2 16 yX2_commonDivisor ∈ big := big_at 539 (by decide +kernel) rfl
theorem ml_X2_24 : Cond.methodLink RX2 24 Lib.MathLoose.abs_long.x ∈ big := big_at 542 (by decide +kernel) rfl
theorem ml_X7_38 : Cond.methodLink RX7 38 yX7_chanceAt ∈ big := big_at 545 (by decide +kernel) rfl
theorem ml_X7_42 : Cond.methodLink RX7 42 arraycopyName ∈ big := big_at 549 (by decide +kernel) rfl
theorem kl_L_10 : Cond.classLink RL 10 "RandomWalksLaw" ∈ big := big_at 552 (by decide +kernel) rfl
theorem ml_L_104 : Cond.methodLink RL 104 yL_init ∈ big := big_at 554 (by decide +kernel) rfl
theorem ml_L_1 : Cond.methodLink RL 1 Lib.objectInit ∈ big := big_at 557 (by decide +kernel) rfl
theorem kl_L_7 : Cond.classLink RL 7 "[[I" ∈ big := big_at 558 (by decide +kernel) rfl
theorem gf_L_52 : Gf RL 52 13 0 := ⟨_, _, _, _, clkL, by decide, Or.inl (big_at 560 (by decide +kernel) rfl)⟩
theorem pf_L_52 : Pf RL 52 13 0 (.int) := ⟨_, _, _, _, clkL, by decide, Or.inl (big_at 560 (by decide +kernel) rfl), rfl, by decide +kernel⟩
theorem gf_L_81 : Gf RL 81 13 1 := ⟨_, _, _, _, clkL, by decide, Or.inl (big_at 561 (by decide +kernel) rfl)⟩
theorem pf_L_81 : Pf RL 81 13 1 (.int) := ⟨_, _, _, _, clkL, by decide, Or.inl (big_at 561 (by decide +kernel) rfl), rfl, by decide +kernel⟩
theorem gf_L_71 : Gf RL 71 13 2 := ⟨_, _, _, _, clkL, by decide, Or.inl (big_at 562 (by decide +kernel) rfl)⟩
theorem pf_L_71 : Pf RL 71 13 2 (.int) := ⟨_, _, _, _, clkL, by decide, Or.inl (big_at 562 (by decide +kernel) rfl), rfl, by decide +kernel⟩
theorem gf_L_9 : Gf RL 9 13 3 := ⟨_, _, _, _, clkL, by decide, Or.inl (big_at 563 (by decide +kernel) rfl)⟩
theorem pff_L_9 : Pff RL 9 13 3 (.array (.array .int)) := ⟨_, _, _, _, clkL, by decide, big_at 563 (by decide +kernel) rfl, rfl, rfl, by decide +kernel⟩
theorem gf_L_14 : Gf RL 14 13 4 := ⟨_, _, _, _, clkL, by decide, Or.inl (big_at 564 (by decide +kernel) rfl)⟩
theorem pff_L_14 : Pff RL 14 13 4 (.array (.array .int)) := ⟨_, _, _, _, clkL, by decide, big_at 564 (by decide +kernel) rfl, rfl, rfl, by decide +kernel⟩
theorem gf_L_17 : Gf RL 17 13 5 := ⟨_, _, _, _, clkL, by decide, Or.inl (big_at 565 (by decide +kernel) rfl)⟩
theorem pff_L_17 : Pff RL 17 13 5 (.array .int) := ⟨_, _, _, _, clkL, by decide, big_at 565 (by decide +kernel) rfl, rfl, rfl, by decide +kernel⟩
theorem gf_L_21 : Gf RL 21 13 6 := ⟨_, _, _, _, clkL, by decide, Or.inl (big_at 566 (by decide +kernel) rfl)⟩
theorem pff_L_21 : Pff RL 21 13 6 (.array .int) := ⟨_, _, _, _, clkL, by decide, big_at 566 (by decide +kernel) rfl, rfl, rfl, by decide +kernel⟩
theorem gf_L_24 : Gf RL 24 13 7 := ⟨_, _, _, _, clkL, by decide, Or.inl (big_at 567 (by decide +kernel) rfl)⟩
theorem pff_L_24 : Pff RL 24 13 7 (.array .int) := ⟨_, _, _, _, clkL, by decide, big_at 567 (by decide +kernel) rfl, rfl, rfl, by decide +kernel⟩
theorem ml_L_105 : Cond.methodLink RL 105 yL_cell ∈ big := big_at 585 (by decide +kernel) rfl
theorem ml_L_109 : Cond.methodLink RL 109 yL_bound ∈ big := big_at 588 (by decide +kernel) rfl
theorem ic_L_27 : Cond.constant RL 27 (2147483647) ∈ big := big_at 591 (by decide +kernel) rfl
theorem ml_L_150 : Cond.methodLink RL 150 yL_read ∈ big := big_at 592 (by decide +kernel) rfl
theorem ml_L_28 : Cond.methodLink RL 28 yJ0_length_8abf5 ∈ big := big_at 595 (by decide +kernel) rfl
theorem ml_J0_335 : Cond.methodLink RJ0 335 yJ0_coder_7d493 ∈ big := big_at 599 (by decide +kernel) rfl
theorem fl_J0_38 : Cond.fieldLink RJ0 38 "java/lang/String" "COMPACT_STRINGS" "Z" ∈ big := big_at 603 (by decide +kernel) rfl
theorem ml_L_34 : Cond.methodLink RL 34 yJ0_charAt_5068e ∈ big := big_at 605 (by decide +kernel) rfl
theorem ml_J0_492 : Cond.methodLink RJ0 492 yJ0_isLatin1_aae02 ∈ big := big_at 609 (by decide +kernel) rfl
theorem ml_J0_495 : Cond.methodLink RJ0 495 yJ1_charAt_3b067 ∈ big := big_at 613 (by decide +kernel) rfl
theorem ml_J1_9 : Cond.methodLink RJ1 9 yJ0_checkIndex_df160 ∈ big := big_at 616 (by decide +kernel) rfl
theorem fl_J0_1053 : Cond.fieldLink RJ0 1053 "jdk/internal/util/Preconditions" "SIOOBE_FORMATTER" "Ljava/util/function/BiFunction;" ∈ big := big_at 619 (by decide +kernel) rfl
theorem ml_J0_1059 : Cond.methodLink RJ0 1059 yJ3_checkIndex_8e157 ∈ big := big_at 621 (by decide +kernel) rfl
theorem ml_J0_498 : Cond.methodLink RJ0 498 yJ2_charAt_3b067 ∈ big := big_at 624 (by decide +kernel) rfl
theorem ml_J2_67 : Cond.methodLink RJ2 67 yJ2_checkIndex_2214a ∈ big := big_at 627 (by decide +kernel) rfl
theorem ml_J2_48 : Cond.methodLink RJ2 48 yJ2_length_9d52b ∈ big := big_at 630 (by decide +kernel) rfl
theorem ml_J2_414 : Cond.methodLink RJ2 414 yJ0_checkIndex_df160 ∈ big := big_at 633 (by decide +kernel) rfl
theorem ml_J2_71 : Cond.methodLink RJ2 71 yJ2_getChar_3b067 ∈ big := big_at 634 (by decide +kernel) rfl
theorem fl_J2_44 : Cond.fieldLink RJ2 44 "java/lang/StringUTF16" "$assertionsDisabled" "Z" ∈ big := big_at 637 (by decide +kernel) rfl
theorem fl_J2_59 : Cond.fieldLink RJ2 59 "java/lang/StringUTF16" "HI_BYTE_SHIFT" "I" ∈ big := big_at 639 (by decide +kernel) rfl
theorem fl_J2_63 : Cond.fieldLink RJ2 63 "java/lang/StringUTF16" "LO_BYTE_SHIFT" "I" ∈ big := big_at 641 (by decide +kernel) rfl
theorem ml_L_38 : Cond.methodLink RL 38 yX10_append ∈ big := big_at 643 (by decide +kernel) rfl
theorem ml_X10_92 : Cond.methodLink RX10 92 yX9_hold ∈ big := big_at 647 (by decide +kernel) rfl
theorem ml_L_44 : Cond.methodLink RL 44 yX10_load ∈ big := big_at 651 (by decide +kernel) rfl
theorem ml_X10_103 : Cond.methodLink RX10 103 yX9_scan ∈ big := big_at 656 (by decide +kernel) rfl
theorem ml_X9_32 : Cond.methodLink RX9 32 Lib.Math.min.name ∈ big := big_at 660 (by decide +kernel) rfl
theorem ml_X9_38 : Cond.methodLink RX9 38 yX9_scanToken ∈ big := big_at 663 (by decide +kernel) rfl
theorem ml_X9_45 : Cond.methodLink RX9 45 yX9_isDigit ∈ big := big_at 667 (by decide +kernel) rfl
theorem ml_X9_49 : Cond.methodLink RX9 49 yX9_scanNumber ∈ big := big_at 670 (by decide +kernel) rfl
theorem ml_X9_41 : Cond.methodLink RX9 41 yX9_put ∈ big := big_at 674 (by decide +kernel) rfl
theorem ml_X9_52 : Cond.methodLink RX9 52 yX9_isLetter ∈ big := big_at 678 (by decide +kernel) rfl
theorem ml_X9_55 : Cond.methodLink RX9 55 yX9_scanWord ∈ big := big_at 681 (by decide +kernel) rfl
theorem ml_X9_58 : Cond.methodLink RX9 58 yX9_kindOfWord ∈ big := big_at 685 (by decide +kernel) rfl
theorem ml_X9_63 : Cond.methodLink RX9 63 yX9_isWord ∈ big := big_at 690 (by decide +kernel) rfl
theorem ml_X9_81 : Cond.methodLink RX9 81 yJ0_length_8abf5 ∈ big := big_at 694 (by decide +kernel) rfl
theorem ml_X9_87 : Cond.methodLink RX9 87 yJ0_charAt_5068e ∈ big := big_at 695 (by decide +kernel) rfl
theorem ml_X10_106 : Cond.methodLink RX10 106 yX6_readSetup ∈ big := big_at 703 (by decide +kernel) rfl
theorem ml_X6_61 : Cond.methodLink RX6 61 yX6_takeToken ∈ big := big_at 707 (by decide +kernel) rfl
theorem ml_X6_64 : Cond.methodLink RX6 64 yX6_fail ∈ big := big_at 711 (by decide +kernel) rfl
theorem ml_X6_68 : Cond.methodLink RX6 68 yX6_readNumber ∈ big := big_at 715 (by decide +kernel) rfl
theorem ml_X6_72 : Cond.methodLink RX6 72 yX3_clear ∈ big := big_at 719 (by decide +kernel) rfl
theorem ml_X3_52 : Cond.methodLink RX3 52 Lib.Math.min.name ∈ big := big_at 723 (by decide +kernel) rfl
theorem ml_X3_58 : Cond.methodLink RX3 58 Lib.Math.max.name ∈ big := big_at 724 (by decide +kernel) rfl
theorem ml_X3_61 : Cond.methodLink RX3 61 yJ7_fill_53178 ∈ big := big_at 727 (by decide +kernel) rfl
theorem ml_X6_76 : Cond.methodLink RX6 76 yX6_readSemicolon ∈ big := big_at 730 (by decide +kernel) rfl
theorem ml_X6_83 : Cond.methodLink RX6 83 yX6_readStatement ∈ big := big_at 734 (by decide +kernel) rfl
theorem ml_X6_86 : Cond.methodLink RX6 86 yX6_readEdge ∈ big := big_at 738 (by decide +kernel) rfl
theorem ml_X6_98 : Cond.methodLink RX6 98 yX6_readVertex ∈ big := big_at 742 (by decide +kernel) rfl
theorem ml_X6_101 : Cond.methodLink RX6 101 yX3_weightBetween ∈ big := big_at 746 (by decide +kernel) rfl
theorem ml_X6_105 : Cond.methodLink RX6 105 yX3_putEdge ∈ big := big_at 747 (by decide +kernel) rfl
theorem ml_X3_67 : Cond.methodLink RX3 67 yX3_putWeight ∈ big := big_at 751 (by decide +kernel) rfl
theorem ml_X6_89 : Cond.methodLink RX6 89 yX6_readAbsorb ∈ big := big_at 755 (by decide +kernel) rfl
theorem ml_X6_109 : Cond.methodLink RX6 109 yX3_isAbsorbing ∈ big := big_at 759 (by decide +kernel) rfl
theorem ml_X6_92 : Cond.methodLink RX6 92 yX6_readJoin ∈ big := big_at 763 (by decide +kernel) rfl
theorem ml_X6_115 : Cond.methodLink RX6 115 yX3_uniteBlocks ∈ big := big_at 767 (by decide +kernel) rfl
theorem ml_X3_90 : Cond.methodLink RX3 90 yX3_numberBlocks ∈ big := big_at 771 (by decide +kernel) rfl
theorem ml_X3_46 : Cond.methodLink RX3 46 arraycopyName ∈ big := big_at 775 (by decide +kernel) rfl
theorem ml_X6_95 : Cond.methodLink RX6 95 yX6_readCost ∈ big := big_at 776 (by decide +kernel) rfl
theorem ml_X6_119 : Cond.methodLink RX6 119 yX6_postpone ∈ big := big_at 780 (by decide +kernel) rfl
theorem ml_X6_122 : Cond.methodLink RX6 122 yX6_readFactor ∈ big := big_at 784 (by decide +kernel) rfl
theorem ml_X6_141 : Cond.methodLink RX6 141 yX6_emit ∈ big := big_at 788 (by decide +kernel) rfl
theorem ml_X6_125 : Cond.methodLink RX6 125 yX6_strength ∈ big := big_at 792 (by decide +kernel) rfl
theorem ml_X6_129 : Cond.methodLink RX6 129 yX6_release ∈ big := big_at 795 (by decide +kernel) rfl
theorem ml_X6_146 : Cond.methodLink RX6 146 yX6_operation ∈ big := big_at 799 (by decide +kernel) rfl
theorem ml_X6_132 : Cond.methodLink RX6 132 yJ7_copyOf_59c91 ∈ big := big_at 802 (by decide +kernel) rfl
theorem ml_J7_316 : Cond.methodLink RJ7 316 ⟨"[I", "clone", "()Ljava/lang/Object;"⟩ ∈ big := big_at 805 (by decide +kernel) rfl
theorem kl_J7_317 : Cond.classLink RJ7 317 "[I" ∈ big := big_at 811 (by decide +kernel) rfl
theorem ml_J7_304 : Cond.methodLink RJ7 304 Lib.Math.min.name ∈ big := big_at 812 (by decide +kernel) rfl
theorem ml_J7_150 : Cond.methodLink RJ7 150 arraycopyName ∈ big := big_at 813 (by decide +kernel) rfl
theorem ml_X10_114 : Cond.methodLink RX10 114 yX4_keep ∈ big := big_at 814 (by decide +kernel) rfl
theorem ml_X4_25 : Cond.methodLink RX4 25 yX3_copyFrom ∈ big := big_at 818 (by decide +kernel) rfl
theorem ml_X4_29 : Cond.methodLink RX4 29 Lib.Math.min.name ∈ big := big_at 822 (by decide +kernel) rfl
theorem ml_X10_121 : Cond.methodLink RX10 121 yX3_copyFrom ∈ big := big_at 823 (by decide +kernel) rfl
theorem ml_L_156 : Cond.methodLink RL 156 yL_areHits ∈ big := big_at 824 (by decide +kernel) rfl
theorem ml_L_56 : Cond.methodLink RL 56 yL_reached ∈ big := big_at 828 (by decide +kernel) rfl
theorem ml_L_60 : Cond.methodLink RL 60 yX10_hittingCost ∈ big := big_at 832 (by decide +kernel) rfl
theorem ml_X10_168 : Cond.methodLink RX10 168 yX10_requireWay ∈ big := big_at 836 (by decide +kernel) rfl
theorem ml_X10_244 : Cond.methodLink RX10 244 yX3_hasWay ∈ big := big_at 840 (by decide +kernel) rfl
theorem ml_X3_78 : Cond.methodLink RX3 78 yX3_component ∈ big := big_at 844 (by decide +kernel) rfl
theorem ml_X3_74 : Cond.methodLink RX3 74 yX3_neighbours ∈ big := big_at 848 (by decide +kernel) rfl
theorem kl_X10_248 : Cond.classLink RX10 248 "java/lang/IllegalStateException" ∈ big := big_at 852 (by decide +kernel) rfl
theorem ml_X10_252 : Cond.methodLink RX10 252 ⟨"java/lang/IllegalStateException", "<init>", "(Ljava/lang/String;)V"⟩ ∈ big := big_at 862 (by decide +kernel) rfl
theorem ac_boolean : Cond.arrayClass .boolean ∈ big := big_at 868 (by decide +kernel) rfl
theorem ml_X10_179 : Cond.methodLink RX10 179 yX10_gainCosts ∈ big := big_at 869 (by decide +kernel) rfl
theorem ml_X10_268 : Cond.methodLink RX10 268 yX0_fillTable ∈ big := big_at 873 (by decide +kernel) rfl
theorem ml_X0_39 : Cond.methodLink RX0 39 yJ7_fill_53178 ∈ big := big_at 877 (by decide +kernel) rfl
theorem ml_X0_55 : Cond.methodLink RX0 55 yX0_costOfStep ∈ big := big_at 878 (by decide +kernel) rfl
theorem ml_X0_23 : Cond.methodLink RX0 23 yX3_weightBetween ∈ big := big_at 882 (by decide +kernel) rfl
theorem ml_X0_27 : Cond.methodLink RX0 27 yX0_evaluate ∈ big := big_at 883 (by decide +kernel) rfl
theorem ml_X0_59 : Cond.methodLink RX0 59 yX0_operand ∈ big := big_at 887 (by decide +kernel) rfl
theorem ml_X0_63 : Cond.methodLink RX0 63 yX0_operate ∈ big := big_at 890 (by decide +kernel) rfl
theorem lc_X0_67 : Cond.constantLong RX0 67 (-1000000) ∈ big := big_at 893 (by decide +kernel) rfl
theorem lc_X0_69 : Cond.constantLong RX0 69 (1000000) ∈ big := big_at 894 (by decide +kernel) rfl
theorem ml_X0_71 : Cond.methodLink RX0 71 Lib.MathLoose.min_long.x ∈ big := big_at 895 (by decide +kernel) rfl
theorem ml_X0_74 : Cond.methodLink RX0 74 Lib.MathLoose.max_long.x ∈ big := big_at 898 (by decide +kernel) rfl
theorem ml_X0_31 : Cond.methodLink RX0 31 Lib.Math.min.name ∈ big := big_at 901 (by decide +kernel) rfl
theorem ml_X0_36 : Cond.methodLink RX0 36 Lib.Math.max.name ∈ big := big_at 902 (by decide +kernel) rfl
theorem ml_X10_142 : Cond.methodLink RX10 142 yX3_weightBetween ∈ big := big_at 903 (by decide +kernel) rfl
theorem ml_X10_326 : Cond.methodLink RX10 326 yX0_tabled ∈ big := big_at 904 (by decide +kernel) rfl
theorem ml_X10_175 : Cond.methodLink RX10 175 yX1_meanUntil ∈ big := big_at 908 (by decide +kernel) rfl
theorem ml_X1_26 : Cond.methodLink RX1 26 yX2_put ∈ big := big_at 912 (by decide +kernel) rfl
theorem ml_X1_32 : Cond.methodLink RX1 32 yX3_component ∈ big := big_at 913 (by decide +kernel) rfl
theorem ml_X1_38 : Cond.methodLink RX1 38 yX1_solve ∈ big := big_at 914 (by decide +kernel) rfl
theorem ml_X10_164 : Cond.methodLink RX10 164 yX2_part ∈ big := big_at 918 (by decide +kernel) rfl
theorem ml_L_64 : Cond.methodLink RL 64 yX10_hittingTime ∈ big := big_at 922 (by decide +kernel) rfl
theorem ml_X10_172 : Cond.methodLink RX10 172 yX10_gainSteps ∈ big := big_at 926 (by decide +kernel) rfl
theorem ml_L_48 : Cond.methodLink RL 48 yL_divisor ∈ big := big_at 930 (by decide +kernel) rfl
theorem ml_L_67 : Cond.methodLink RL 67 yL_isMean ∈ big := big_at 933 (by decide +kernel) rfl
theorem ml_L_74 : Cond.methodLink RL 74 yL_isAbsorbing ∈ big := big_at 937 (by decide +kernel) rfl
theorem ml_L_163 : Cond.methodLink RL 163 yL_areAbsorptions ∈ big := big_at 941 (by decide +kernel) rfl
theorem ml_L_78 : Cond.methodLink RL 78 yX10_absorption ∈ big := big_at 945 (by decide +kernel) rfl
theorem ml_X10_200 : Cond.methodLink RX10 200 yX3_isAbsorbing ∈ big := big_at 949 (by decide +kernel) rfl
theorem ml_X10_206 : Cond.methodLink RX10 206 yX10_requireAbsorbingWay ∈ big := big_at 951 (by decide +kernel) rfl
theorem ml_X10_157 : Cond.methodLink RX10 157 yX3_component ∈ big := big_at 955 (by decide +kernel) rfl
theorem ml_X10_209 : Cond.methodLink RX10 209 yX10_findAbsorption ∈ big := big_at 957 (by decide +kernel) rfl
theorem ml_X10_212 : Cond.methodLink RX10 212 yX2_put ∈ big := big_at 961 (by decide +kernel) rfl
theorem ml_X10_216 : Cond.methodLink RX10 216 yX1_solve ∈ big := big_at 962 (by decide +kernel) rfl
theorem ml_L_84 : Cond.methodLink RL 84 yL_treesOf ∈ big := big_at 963 (by decide +kernel) rfl
theorem ml_L_88 : Cond.methodLink RL 88 ⟨"[I", "clone", "()Ljava/lang/Object;"⟩ ∈ big := big_at 967 (by decide +kernel) rfl
theorem kl_L_89 : Cond.classLink RL 89 "[I" ∈ big := big_at 968 (by decide +kernel) rfl
theorem ml_L_181 : Cond.methodLink RL 181 yL_areWalks ∈ big := big_at 969 (by decide +kernel) rfl
theorem lc_L_93 : Cond.constantLong RL 93 (1103515245) ∈ big := big_at 973 (by decide +kernel) rfl
theorem lc_L_95 : Cond.constantLong RL 95 (12345) ∈ big := big_at 974 (by decide +kernel) rfl
theorem lc_L_97 : Cond.constantLong RL 97 (2147483648) ∈ big := big_at 975 (by decide +kernel) rfl
theorem ml_L_99 : Cond.methodLink RL 99 yX10_walk ∈ big := big_at 976 (by decide +kernel) rfl
theorem ml_X10_271 : Cond.methodLink RX10 271 yX8_go ∈ big := big_at 983 (by decide +kernel) rfl
theorem ml_X8_26 : Cond.methodLink RX8 26 yX3_isAbsorbing ∈ big := big_at 987 (by decide +kernel) rfl
theorem ml_X8_32 : Cond.methodLink RX8 32 yX8_drawStep ∈ big := big_at 988 (by decide +kernel) rfl
theorem ml_X8_42 : Cond.methodLink RX8 42 yX3_sumOfWeights ∈ big := big_at 992 (by decide +kernel) rfl
theorem lc_X8_46 : Cond.constantLong RX8 46 (1103515245) ∈ big := big_at 993 (by decide +kernel) rfl
theorem lc_X8_48 : Cond.constantLong RX8 48 (12345) ∈ big := big_at 994 (by decide +kernel) rfl
theorem lc_X8_50 : Cond.constantLong RX8 50 (2147483648) ∈ big := big_at 995 (by decide +kernel) rfl
theorem lc_X8_52 : Cond.constantLong RX8 52 (65536) ∈ big := big_at 996 (by decide +kernel) rfl
theorem ml_X8_57 : Cond.methodLink RX8 57 yX3_weightBetween ∈ big := big_at 997 (by decide +kernel) rfl
theorem ml_X8_36 : Cond.methodLink RX8 36 yX0_tabled ∈ big := big_at 998 (by decide +kernel) rfl
theorem ml_X10_275 : Cond.methodLink RX10 275 yX8_told ∈ big := big_at 999 (by decide +kernel) rfl
theorem ml_L_178 : Cond.methodLink RL 178 yJ9_abs_0f7a4 ∈ big := big_at 1003 (by decide +kernel) rfl
theorem ml_L_138 : Cond.methodLink RL 138 Lib.Math.max.name ∈ big := big_at 1006 (by decide +kernel) rfl
theorem ml_L_133 : Cond.methodLink RL 133 Lib.Math.min.name ∈ big := big_at 1007 (by decide +kernel) rfl
theorem kl_L_113 : Cond.classLink RL 113 "java/lang/StringBuilder" ∈ big := big_at 1008 (by decide +kernel) rfl
theorem ml_L_115 : Cond.methodLink RL 115 yJ4_init_da8c8 ∈ big := big_at 1010 (by decide +kernel) rfl
theorem ml_J4_1 : Cond.methodLink RJ4 1 yJ5_init_d00df ∈ big := big_at 1013 (by decide +kernel) rfl
theorem ml_J5_3 : Cond.methodLink RJ5 3 Lib.objectInit ∈ big := big_at 1016 (by decide +kernel) rfl
theorem fl_J5_18 : Cond.fieldLink RJ5 18 "java/lang/String" "COMPACT_STRINGS" "Z" ∈ big := big_at 1017 (by decide +kernel) rfl
theorem ml_J5_26 : Cond.methodLink RJ5 26 yJ2_newBytesFor_77867 ∈ big := big_at 1018 (by decide +kernel) rfl
theorem ml_J2_11 : Cond.methodLink RJ2 11 yJ2_newBytesLength_0f7a4 ∈ big := big_at 1021 (by decide +kernel) rfl
theorem ic_J2_20 : Cond.constant RJ2 20 (1073741823) ∈ big := big_at 1024 (by decide +kernel) rfl
theorem gf_J5_15 : Gf RJ5 15 12 0 := ⟨_, _, _, _, clkJ4, by decide, Or.inl (big_at 1025 (by decide +kernel) rfl)⟩
theorem pf_J5_15 : Pf RJ5 15 12 0 (.array .byte) := ⟨_, _, _, _, clkJ4, by decide, Or.inl (big_at 1025 (by decide +kernel) rfl), rfl, by decide +kernel⟩
theorem gf_J5_22 : Gf RJ5 22 12 1 := ⟨_, _, _, _, clkJ4, by decide, Or.inl (big_at 1026 (by decide +kernel) rfl)⟩
theorem pf_J5_22 : Pf RJ5 22 12 1 (.byte) := ⟨_, _, _, _, clkJ4, by decide, Or.inl (big_at 1026 (by decide +kernel) rfl), rfl, by decide +kernel⟩
theorem fl_J0_1048 : Cond.fieldLink RJ0 1048 "java/lang/AbstractStringBuilder" "maybeLatin1" "Z" ∈ big := big_at 1027 (by decide +kernel) rfl
theorem gf_J0_1048 : Gf RJ0 1048 12 2 := ⟨_, _, _, _, clkJ4, by decide, Or.inl (big_at 1027 (by decide +kernel) rfl)⟩
theorem pf_J0_1048 : Pf RJ0 1048 12 2 (.boolean) := ⟨_, _, _, _, clkJ4, by decide, Or.inl (big_at 1027 (by decide +kernel) rfl), rfl, by decide +kernel⟩
theorem gf_J5_79 : Gf RJ5 79 12 3 := ⟨_, _, _, _, clkJ4, by decide, Or.inl (big_at 1028 (by decide +kernel) rfl)⟩
theorem pf_J5_79 : Pf RJ5 79 12 3 (.int) := ⟨_, _, _, _, clkJ4, by decide, Or.inl (big_at 1028 (by decide +kernel) rfl), rfl, by decide +kernel⟩
theorem ml_L_130 : Cond.methodLink RL 130 yJ4_init_a7421 ∈ big := big_at 1038 (by decide +kernel) rfl
theorem ml_J4_7 : Cond.methodLink RJ4 7 yJ5_init_a7421 ∈ big := big_at 1041 (by decide +kernel) rfl
theorem ml_J5_32 : Cond.methodLink RJ5 32 yJ0_length_8abf5 ∈ big := big_at 1044 (by decide +kernel) rfl
theorem ic_J5_38 : Cond.constant RJ5 38 (2147483631) ∈ big := big_at 1045 (by decide +kernel) rfl
theorem ic_J5_39 : Cond.constant RJ5 39 (2147483647) ∈ big := big_at 1046 (by decide +kernel) rfl
theorem ml_J5_40 : Cond.methodLink RJ5 40 yJ0_coder_7d493 ∈ big := big_at 1047 (by decide +kernel) rfl
theorem ml_J5_43 : Cond.methodLink RJ5 43 yJ5_append_cf1ce ∈ big := big_at 1048 (by decide +kernel) rfl
theorem ml_J4_23 : Cond.methodLink RJ4 23 yJ4_append_15ec4 ∈ big := big_at 1054 (by decide +kernel) rfl
theorem ml_J4_29 : Cond.methodLink RJ4 29 yJ5_append_cf1ce ∈ big := big_at 1058 (by decide +kernel) rfl
theorem ml_J5_204 : Cond.methodLink RJ5 204 yJ5_appendNull_278bc ∈ big := big_at 1060 (by decide +kernel) rfl
theorem ml_J5_100 : Cond.methodLink RJ5 100 yJ5_ensureCapacityInternal_d00df ∈ big := big_at 1064 (by decide +kernel) rfl
theorem ml_J5_104 : Cond.methodLink RJ5 104 yJ5_newCapacity_0f7a4 ∈ big := big_at 1068 (by decide +kernel) rfl
theorem ml_J5_114 : Cond.methodLink RJ5 114 yJ8_newLength_cabcc ∈ big := big_at 1072 (by decide +kernel) rfl
theorem ml_J8_194 : Cond.methodLink RJ8 194 Lib.Math.max.name ∈ big := big_at 1075 (by decide +kernel) rfl
theorem ic_J8_200 : Cond.constant RJ8 200 (2147483639) ∈ big := big_at 1076 (by decide +kernel) rfl
theorem ml_J8_201 : Cond.methodLink RJ8 201 yJ8_hugeLength_7cf53 ∈ big := big_at 1077 (by decide +kernel) rfl
theorem ml_J5_108 : Cond.methodLink RJ5 108 yJ7_copyOf_9075b ∈ big := big_at 1080 (by decide +kernel) rfl
theorem ml_J7_310 : Cond.methodLink RJ7 310 ⟨"[B", "clone", "()Ljava/lang/Object;"⟩ ∈ big := big_at 1083 (by decide +kernel) rfl
theorem kl_J7_311 : Cond.classLink RJ7 311 "[B" ∈ big := big_at 1087 (by decide +kernel) rfl
theorem ml_J5_83 : Cond.methodLink RJ5 83 yJ5_isLatin1_aae02 ∈ big := big_at 1088 (by decide +kernel) rfl
theorem ml_J5_226 : Cond.methodLink RJ5 226 yJ2_putCharsAt_cd4e5 ∈ big := big_at 1093 (by decide +kernel) rfl
theorem ml_J2_96 : Cond.methodLink RJ2 96 yJ2_checkBoundsBeginEnd_d044e ∈ big := big_at 1096 (by decide +kernel) rfl
theorem ml_J2_241 : Cond.methodLink RJ2 241 yJ0_checkBoundsBeginEnd_23922 ∈ big := big_at 1099 (by decide +kernel) rfl
theorem ml_J0_1062 : Cond.methodLink RJ0 1062 yJ3_checkFromToIndex_8c36e ∈ big := big_at 1102 (by decide +kernel) rfl
theorem ml_J2_111 : Cond.methodLink RJ2 111 yJ2_putChar_b72d1 ∈ big := big_at 1105 (by decide +kernel) rfl
theorem ml_J5_208 : Cond.methodLink RJ5 208 yJ5_putStringAt_47b60 ∈ big := big_at 1108 (by decide +kernel) rfl
theorem ml_J5_397 : Cond.methodLink RJ5 397 yJ5_inflateIfNeededFor_a7421 ∈ big := big_at 1112 (by decide +kernel) rfl
theorem ml_J5_195 : Cond.methodLink RJ5 195 yJ5_inflate_da8c8 ∈ big := big_at 1116 (by decide +kernel) rfl
theorem ml_J5_125 : Cond.methodLink RJ5 125 yJ1_inflate_0e8fd ∈ big := big_at 1120 (by decide +kernel) rfl
theorem ml_J1_240 : Cond.methodLink RJ1 240 yJ2_inflate_0e8fd ∈ big := big_at 1123 (by decide +kernel) rfl
theorem ml_J2_173 : Cond.methodLink RJ2 173 yJ2_checkBoundsOffCount_d044e ∈ big := big_at 1126 (by decide +kernel) rfl
theorem ml_J2_419 : Cond.methodLink RJ2 419 yJ0_checkBoundsOffCount_cabcc ∈ big := big_at 1129 (by decide +kernel) rfl
theorem ml_J0_1065 : Cond.methodLink RJ0 1065 yJ3_checkFromIndexSize_8c36e ∈ big := big_at 1132 (by decide +kernel) rfl
theorem ml_J5_399 : Cond.methodLink RJ5 399 yJ0_getBytes_840e7 ∈ big := big_at 1135 (by decide +kernel) rfl
theorem ml_J0_212 : Cond.methodLink RJ0 212 arraycopyName ∈ big := big_at 1139 (by decide +kernel) rfl
theorem ml_J0_106 : Cond.methodLink RJ0 106 yJ1_inflate_0e8fd ∈ big := big_at 1140 (by decide +kernel) rfl
theorem ml_L_118 : Cond.methodLink RL 118 yJ4_append_15ec4 ∈ big := big_at 1141 (by decide +kernel) rfl
theorem ml_L_143 : Cond.methodLink RL 143 yJ4_append_cf468 ∈ big := big_at 1142 (by decide +kernel) rfl
theorem ml_J4_50 : Cond.methodLink RJ4 50 yJ5_append_3fe6f ∈ big := big_at 1146 (by decide +kernel) rfl
theorem ml_J5_191 : Cond.methodLink RJ5 191 yJ1_canEncode_fc78d ∈ big := big_at 1149 (by decide +kernel) rfl
theorem ml_J5_197 : Cond.methodLink RJ5 197 yJ2_putCharSB_b72d1 ∈ big := big_at 1152 (by decide +kernel) rfl
theorem ml_L_121 : Cond.methodLink RL 121 yJ4_append_bf812 ∈ big := big_at 1155 (by decide +kernel) rfl
theorem ml_J4_53 : Cond.methodLink RJ4 53 yJ5_append_c97b9 ∈ big := big_at 1159 (by decide +kernel) rfl
theorem ml_J5_245 : Cond.methodLink RJ5 245 yJ6_stringSize_0f7a4 ∈ big := big_at 1162 (by decide +kernel) rfl
theorem ml_J5_248 : Cond.methodLink RJ5 248 yJ6_getChars_ba4f3 ∈ big := big_at 1165 (by decide +kernel) rfl
theorem fl_J6_83 : Cond.fieldLink RJ6 83 "java/lang/Integer" "DigitOnes" "[B" ∈ big := big_at 1168 (by decide +kernel) rfl
theorem fl_J6_87 : Cond.fieldLink RJ6 87 "java/lang/Integer" "DigitTens" "[B" ∈ big := big_at 1170 (by decide +kernel) rfl
theorem ml_J5_251 : Cond.methodLink RJ5 251 yJ2_getChars_46870 ∈ big := big_at 1172 (by decide +kernel) rfl
theorem ml_J2_393 : Cond.methodLink RJ2 393 yJ2_getChars_ba4f3 ∈ big := big_at 1175 (by decide +kernel) rfl
theorem fl_J2_403 : Cond.fieldLink RJ2 403 "java/lang/Integer" "DigitOnes" "[B" ∈ big := big_at 1178 (by decide +kernel) rfl
theorem fl_J2_407 : Cond.fieldLink RJ2 407 "java/lang/Integer" "DigitTens" "[B" ∈ big := big_at 1179 (by decide +kernel) rfl
theorem ml_L_126 : Cond.methodLink RL 126 yJ4_toString_0e30d ∈ big := big_at 1180 (by decide +kernel) rfl
theorem kl_J4_18 : Cond.classLink RJ4 18 "java/lang/String" ∈ big := big_at 1184 (by decide +kernel) rfl
theorem ml_J4_137 : Cond.methodLink RJ4 137 yJ0_init_81219 ∈ big := big_at 1186 (by decide +kernel) rfl
theorem ml_J0_489 : Cond.methodLink RJ0 489 yJ0_init_db425 ∈ big := big_at 1189 (by decide +kernel) rfl
theorem ml_J0_1 : Cond.methodLink RJ0 1 Lib.objectInit ∈ big := big_at 1192 (by decide +kernel) rfl
theorem ml_J0_552 : Cond.methodLink RJ0 552 yJ5_getValue_6d5f1 ∈ big := big_at 1193 (by decide +kernel) rfl
theorem ml_J0_549 : Cond.methodLink RJ0 549 yJ5_length_8abf5 ∈ big := big_at 1198 (by decide +kernel) rfl
theorem ml_J4_343 : Cond.methodLink RJ4 343 yJ5_length_8abf5 ∈ big := big_at 1204 (by decide +kernel) rfl
theorem ml_J0_1047 : Cond.methodLink RJ0 1047 yJ5_isLatin1_aae02 ∈ big := big_at 1206 (by decide +kernel) rfl
theorem ml_J0_54 : Cond.methodLink RJ0 54 yJ7_copyOfRange_39247 ∈ big := big_at 1207 (by decide +kernel) rfl
theorem ml_J7_339 : Cond.methodLink RJ7 339 yJ7_copyOfRangeByte_39247 ∈ big := big_at 1210 (by decide +kernel) rfl
theorem ml_J7_343 : Cond.methodLink RJ7 343 yJ7_checkLength_df160 ∈ big := big_at 1213 (by decide +kernel) rfl
theorem ml_J0_1051 : Cond.methodLink RJ0 1051 yJ2_compress_39247 ∈ big := big_at 1216 (by decide +kernel) rfl
theorem ml_J2_123 : Cond.methodLink RJ2 123 yJ2_compress_5af95 ∈ big := big_at 1219 (by decide +kernel) rfl
theorem ml_J2_126 : Cond.methodLink RJ2 126 yJ7_copyOfRange_39247 ∈ big := big_at 1222 (by decide +kernel) rfl
theorem ml_J0_47 : Cond.methodLink RJ0 47 yJ2_coderFromArrayLen_85cad ∈ big := big_at 1223 (by decide +kernel) rfl
theorem fl_J0_9 : Cond.fieldLink RJ0 9 "java/lang/String" "value" "[B" ∈ big := big_at 1226 (by decide +kernel) rfl
theorem gf_J0_9 : Gf RJ0 9 11 0 := ⟨_, _, _, _, clkJ0, by decide, Or.inl (big_at 1226 (by decide +kernel) rfl)⟩
theorem pff_J0_9 : Pff RJ0 9 11 0 (.array .byte) := ⟨_, _, _, _, clkJ0, by decide, big_at 1226 (by decide +kernel) rfl, rfl, rfl, by decide +kernel⟩
theorem fl_J0_15 : Cond.fieldLink RJ0 15 "java/lang/String" "coder" "B" ∈ big := big_at 1227 (by decide +kernel) rfl
theorem gf_J0_15 : Gf RJ0 15 11 1 := ⟨_, _, _, _, clkJ0, by decide, Or.inl (big_at 1227 (by decide +kernel) rfl)⟩
theorem pff_J0_15 : Pff RJ0 15 11 1 (.byte) := ⟨_, _, _, _, clkJ0, by decide, big_at 1227 (by decide +kernel) rfl, rfl, rfl, by decide +kernel⟩
theorem cf_L_175 : Cond.constantFloat RL 175 (1065336439 : UInt32) ∈ big := big_at 1242 (by decide +kernel) rfl
theorem cf_L_176 : Cond.constantFloat RL 176 (1065361605 : UInt32) ∈ big := big_at 1243 (by decide +kernel) rfl
theorem ic_L_177 : Cond.constant RL 177 (1000000) ∈ big := big_at 1244 (by decide +kernel) rfl
theorem oi_inst : Cond.instanceMethod Lib.objectInit ∈ big := big_at 81 (by decide +kernel) rfl
theorem oi_code : Cond.code Lib.objectInit ⟨#[0xb1]⟩ 1 none ∈ big := big_at 82 (by decide +kernel) rfl
theorem mw_min_s : Cond.static Lib.Math.min.name ∈ big := big_at 661 (by decide +kernel) rfl
theorem mw_min_c : Cond.code Lib.Math.min.name Lib.Math.min.code 2 (some .int) ∈ big := big_at 662 (by decide +kernel) rfl
theorem mw_max_s : Cond.static Lib.Math.max.name ∈ big := big_at 725 (by decide +kernel) rfl
theorem mw_max_c : Cond.code Lib.Math.max.name Lib.Math.max.code 2 (some .int) ∈ big := big_at 726 (by decide +kernel) rfl
theorem mw_minL_s : Cond.static Lib.MathLoose.min_long.x ∈ big := big_at 896 (by decide +kernel) rfl
theorem mw_minL_c : Cond.code Lib.MathLoose.min_long.x Lib.MathLoose.min_long.code 4 (some .long) ∈ big := big_at 897 (by decide +kernel) rfl
theorem mw_maxL_s : Cond.static Lib.MathLoose.max_long.x ∈ big := big_at 899 (by decide +kernel) rfl
theorem mw_maxL_c : Cond.code Lib.MathLoose.max_long.x Lib.MathLoose.max_long.code 4 (some .long) ∈ big := big_at 900 (by decide +kernel) rfl
theorem mw_absL_s : Cond.static Lib.MathLoose.abs_long.x ∈ big := big_at 543 (by decide +kernel) rfl
theorem mw_absL_c : Cond.code Lib.MathLoose.abs_long.x Lib.MathLoose.abs_long.code 2 (some .long) ∈ big := big_at 544 (by decide +kernel) rfl
theorem mw_math : Cond.initialized "java/lang/Math" ∈ big := big_at 62 (by decide +kernel) rfl
theorem mw_acopy_n : Cond.native arraycopyName ∈ big := big_at 551 (by decide +kernel) rfl
theorem mw_acopy_s : Cond.static arraycopyName ∈ big := big_at 550 (by decide +kernel) rfl
theorem mw_system : Cond.initialized "java/lang/System" ∈ big := big_at 64 (by decide +kernel) rfl
theorem nw_L_39 : Nw RL 39 10 12 [.int 0, .null, .null, .null, .null, .null, .null, .null, .null, .null, .null, .null] := ⟨_, _, _, clkX10, big_at 75 (by decide +kernel) rfl, big_at 76 (by decide +kernel) rfl, big_at 46 (by decide +kernel) rfl, fun j hj => by
  rcases (show j = 0 ∨ j = 1 ∨ j = 2 ∨ j = 3 ∨ j = 4 ∨ j = 5 ∨ j = 6 ∨ j = 7 ∨ j = 8 ∨ j = 9 ∨ j = 10 ∨ j = 11 by omega) with rfl | rfl | rfl | rfl | rfl | rfl | rfl | rfl | rfl | rfl | rfl | rfl <;> rfl⟩
theorem nw_X10_13 : Nw RX10 13 3 10 [.int 0, .int 0, .int 0, .int 0, .null, .null, .null, .null, .null, .null] := ⟨_, _, _, clkX3, big_at 83 (by decide +kernel) rfl, big_at 84 (by decide +kernel) rfl, big_at 47 (by decide +kernel) rfl, fun j hj => by
  rcases (show j = 0 ∨ j = 1 ∨ j = 2 ∨ j = 3 ∨ j = 4 ∨ j = 5 ∨ j = 6 ∨ j = 7 ∨ j = 8 ∨ j = 9 by omega) with rfl | rfl | rfl | rfl | rfl | rfl | rfl | rfl | rfl | rfl <;> rfl⟩
theorem nw_X10_20 : Nw RX10 20 4 3 [.null, .int 0, .int 0] := ⟨_, _, _, clkX4, big_at 136 (by decide +kernel) rfl, big_at 137 (by decide +kernel) rfl, big_at 48 (by decide +kernel) rfl, fun j hj => by
  rcases (show j = 0 ∨ j = 1 ∨ j = 2 by omega) with rfl | rfl | rfl <;> rfl⟩
theorem nw_X4_9 : Nw RX4 9 3 10 [.int 0, .int 0, .int 0, .int 0, .null, .null, .null, .null, .null, .null] := ⟨_, _, _, clkX3, big_at 142 (by decide +kernel) rfl, big_at 84 (by decide +kernel) rfl, big_at 47 (by decide +kernel) rfl, fun j hj => by
  rcases (show j = 0 ∨ j = 1 ∨ j = 2 ∨ j = 3 ∨ j = 4 ∨ j = 5 ∨ j = 6 ∨ j = 7 ∨ j = 8 ∨ j = 9 by omega) with rfl | rfl | rfl | rfl | rfl | rfl | rfl | rfl | rfl | rfl <;> rfl⟩
theorem nw_X10_27 : Nw RX10 27 6 13 [.null, .null, .int 0, .int 0, .int 0, .int 0, .int 0, .int 0, .int 0, .null, .int 0, .null, .int 0] := ⟨_, _, _, clkX6, big_at 155 (by decide +kernel) rfl, big_at 156 (by decide +kernel) rfl, big_at 49 (by decide +kernel) rfl, fun j hj => by
  rcases (show j = 0 ∨ j = 1 ∨ j = 2 ∨ j = 3 ∨ j = 4 ∨ j = 5 ∨ j = 6 ∨ j = 7 ∨ j = 8 ∨ j = 9 ∨ j = 10 ∨ j = 11 ∨ j = 12 by omega) with rfl | rfl | rfl | rfl | rfl | rfl | rfl | rfl | rfl | rfl | rfl | rfl | rfl <;> rfl⟩
theorem nw_X6_9 : Nw RX6 9 9 6 [.null, .int 0, .null, .null, .null, .int 0] := ⟨_, _, _, clkX9, big_at 161 (by decide +kernel) rfl, big_at 162 (by decide +kernel) rfl, big_at 50 (by decide +kernel) rfl, fun j hj => by
  rcases (show j = 0 ∨ j = 1 ∨ j = 2 ∨ j = 3 ∨ j = 4 ∨ j = 5 by omega) with rfl | rfl | rfl | rfl | rfl | rfl <;> rfl⟩
theorem nw_X6_18 : Nw RX6 18 3 10 [.int 0, .int 0, .int 0, .int 0, .null, .null, .null, .null, .null, .null] := ⟨_, _, _, clkX3, big_at 192 (by decide +kernel) rfl, big_at 84 (by decide +kernel) rfl, big_at 47 (by decide +kernel) rfl, fun j hj => by
  rcases (show j = 0 ∨ j = 1 ∨ j = 2 ∨ j = 3 ∨ j = 4 ∨ j = 5 ∨ j = 6 ∨ j = 7 ∨ j = 8 ∨ j = 9 by omega) with rfl | rfl | rfl | rfl | rfl | rfl | rfl | rfl | rfl | rfl <;> rfl⟩
theorem nw_X10_34 : Nw RX10 34 0 2 [.null, .null] := ⟨_, _, _, clkX0, big_at 238 (by decide +kernel) rfl, big_at 239 (by decide +kernel) rfl, big_at 51 (by decide +kernel) rfl, fun j hj => by
  rcases (show j = 0 ∨ j = 1 by omega) with rfl | rfl <;> rfl⟩
theorem nw_X10_41 : Nw RX10 41 5 3 [.null, .null, .null] := ⟨_, _, _, clkX5, big_at 251 (by decide +kernel) rfl, big_at 252 (by decide +kernel) rfl, big_at 52 (by decide +kernel) rfl, fun j hj => by
  rcases (show j = 0 ∨ j = 1 ∨ j = 2 by omega) with rfl | rfl | rfl <;> rfl⟩
theorem nw_X5_9 : Nw RX5 9 3 10 [.int 0, .int 0, .int 0, .int 0, .null, .null, .null, .null, .null, .null] := ⟨_, _, _, clkX3, big_at 257 (by decide +kernel) rfl, big_at 84 (by decide +kernel) rfl, big_at 47 (by decide +kernel) rfl, fun j hj => by
  rcases (show j = 0 ∨ j = 1 ∨ j = 2 ∨ j = 3 ∨ j = 4 ∨ j = 5 ∨ j = 6 ∨ j = 7 ∨ j = 8 ∨ j = 9 by omega) with rfl | rfl | rfl | rfl | rfl | rfl | rfl | rfl | rfl | rfl <;> rfl⟩
theorem nw_X10_48 : Nw RX10 48 1 4 [.null, .null, .null, .int 0] := ⟨_, _, _, clkX1, big_at 270 (by decide +kernel) rfl, big_at 271 (by decide +kernel) rfl, big_at 53 (by decide +kernel) rfl, fun j hj => by
  rcases (show j = 0 ∨ j = 1 ∨ j = 2 ∨ j = 3 by omega) with rfl | rfl | rfl | rfl <;> rfl⟩
theorem nw_X10_55 : Nw RX10 55 2 2 [.long 0, .long 0] := ⟨_, _, _, clkX2, big_at 289 (by decide +kernel) rfl, big_at 290 (by decide +kernel) rfl, big_at 54 (by decide +kernel) rfl, fun j hj => by
  rcases (show j = 0 ∨ j = 1 by omega) with rfl | rfl <;> rfl⟩
theorem nw_X10_69 : Nw RX10 69 8 5 [.long 0, .int 0, .int 0, .int 0, .int 0] := ⟨_, _, _, clkX8, big_at 304 (by decide +kernel) rfl, big_at 305 (by decide +kernel) rfl, big_at 55 (by decide +kernel) rfl, fun j hj => by
  rcases (show j = 0 ∨ j = 1 ∨ j = 2 ∨ j = 3 ∨ j = 4 by omega) with rfl | rfl | rfl | rfl | rfl <;> rfl⟩
theorem nw_X10_76 : Nw RX10 76 7 4 [.null, .null, .null, .null] := ⟨_, _, _, clkX7, big_at 326 (by decide +kernel) rfl, big_at 327 (by decide +kernel) rfl, big_at 56 (by decide +kernel) rfl, fun j hj => by
  rcases (show j = 0 ∨ j = 1 ∨ j = 2 ∨ j = 3 by omega) with rfl | rfl | rfl | rfl <;> rfl⟩
theorem nw_X7_21 : Nw RX7 21 2 2 [.long 0, .long 0] := ⟨_, _, _, clkX2, big_at 332 (by decide +kernel) rfl, big_at 290 (by decide +kernel) rfl, big_at 54 (by decide +kernel) rfl, fun j hj => by
  rcases (show j = 0 ∨ j = 1 by omega) with rfl | rfl <;> rfl⟩
theorem nw_L_10 : Nw RL 10 13 8 [.int 0, .int 0, .int 0, .null, .null, .null, .null, .null] := ⟨_, _, _, clkL, big_at 552 (by decide +kernel) rfl, big_at 553 (by decide +kernel) rfl, big_at 45 (by decide +kernel) rfl, fun j hj => by
  rcases (show j = 0 ∨ j = 1 ∨ j = 2 ∨ j = 3 ∨ j = 4 ∨ j = 5 ∨ j = 6 ∨ j = 7 by omega) with rfl | rfl | rfl | rfl | rfl | rfl | rfl | rfl <;> rfl⟩
theorem nw_L_113 : Nw RL 113 12 4 [.null, .int 0, .int 0, .int 0] := ⟨_, _, _, clkJ4, big_at 1008 (by decide +kernel) rfl, big_at 1009 (by decide +kernel) rfl, big_at 58 (by decide +kernel) rfl, fun j hj => by
  rcases (show j = 0 ∨ j = 1 ∨ j = 2 ∨ j = 3 by omega) with rfl | rfl | rfl | rfl <;> rfl⟩
theorem nw_J4_18 : Nw RJ4 18 11 4 [.null, .int 0, .int 0, .int 0] := ⟨_, _, _, clkJ0, big_at 1184 (by decide +kernel) rfl, big_at 1185 (by decide +kernel) rfl, big_at 59 (by decide +kernel) rfl, fun j hj => by
  rcases (show j = 0 ∨ j = 1 ∨ j = 2 ∨ j = 3 by omega) with rfl | rfl | rfl | rfl <;> rfl⟩
abbrev mX10_init : Md := (yX10_init, cX10_init, 1, none, [])
theorem mw_X10_init : MwI mX10_init 0 := ⟨⟨big_at 79 (by decide +kernel) rfl, big_at 46 (by decide +kernel) rfl, ⟨by decide +kernel, by decide +kernel⟩, by decide +kernel⟩, rfl, big_at 78 (by decide +kernel) rfl⟩
abbrev mX3_init : Md := (yX3_init, cX3_init, 1, none, [])
theorem mw_X3_init : MwI mX3_init 0 := ⟨⟨big_at 87 (by decide +kernel) rfl, big_at 47 (by decide +kernel) rfl, ⟨by decide +kernel, by decide +kernel⟩, by decide +kernel⟩, rfl, big_at 86 (by decide +kernel) rfl⟩
abbrev mX4_init : Md := (yX4_init, cX4_init, 2, none, [])
theorem mw_X4_init : MwI mX4_init 0 := ⟨⟨big_at 140 (by decide +kernel) rfl, big_at 48 (by decide +kernel) rfl, ⟨by decide +kernel, by decide +kernel⟩, by decide +kernel⟩, rfl, big_at 139 (by decide +kernel) rfl⟩
abbrev mX6_init : Md := (yX6_init, cX6_init, 1, none, [])
theorem mw_X6_init : MwI mX6_init 0 := ⟨⟨big_at 159 (by decide +kernel) rfl, big_at 49 (by decide +kernel) rfl, ⟨by decide +kernel, by decide +kernel⟩, by decide +kernel⟩, rfl, big_at 158 (by decide +kernel) rfl⟩
abbrev mX9_init : Md := (yX9_init, cX9_init, 1, none, [])
theorem mw_X9_init : MwI mX9_init 0 := ⟨⟨big_at 165 (by decide +kernel) rfl, big_at 50 (by decide +kernel) rfl, ⟨by decide +kernel, by decide +kernel⟩, by decide +kernel⟩, rfl, big_at 164 (by decide +kernel) rfl⟩
abbrev mX0_init : Md := (yX0_init, cX0_init, 1, none, [])
theorem mw_X0_init : MwI mX0_init 0 := ⟨⟨big_at 242 (by decide +kernel) rfl, big_at 51 (by decide +kernel) rfl, ⟨by decide +kernel, by decide +kernel⟩, by decide +kernel⟩, rfl, big_at 241 (by decide +kernel) rfl⟩
abbrev mX5_init : Md := (yX5_init, cX5_init, 1, none, [])
theorem mw_X5_init : MwI mX5_init 0 := ⟨⟨big_at 255 (by decide +kernel) rfl, big_at 52 (by decide +kernel) rfl, ⟨by decide +kernel, by decide +kernel⟩, by decide +kernel⟩, rfl, big_at 254 (by decide +kernel) rfl⟩
abbrev mX1_init : Md := (yX1_init, cX1_init, 1, none, [])
theorem mw_X1_init : MwI mX1_init 0 := ⟨⟨big_at 274 (by decide +kernel) rfl, big_at 53 (by decide +kernel) rfl, ⟨by decide +kernel, by decide +kernel⟩, by decide +kernel⟩, rfl, big_at 273 (by decide +kernel) rfl⟩
abbrev mX2_init : Md := (yX2_init, cX2_init, 1, none, [])
theorem mw_X2_init : MwI mX2_init 0 := ⟨⟨big_at 293 (by decide +kernel) rfl, big_at 54 (by decide +kernel) rfl, ⟨by decide +kernel, by decide +kernel⟩, by decide +kernel⟩, rfl, big_at 292 (by decide +kernel) rfl⟩
abbrev mX8_init : Md := (yX8_init, cX8_init, 1, none, [])
theorem mw_X8_init : MwI mX8_init 0 := ⟨⟨big_at 308 (by decide +kernel) rfl, big_at 55 (by decide +kernel) rfl, ⟨by decide +kernel, by decide +kernel⟩, by decide +kernel⟩, rfl, big_at 307 (by decide +kernel) rfl⟩
abbrev mX7_init : Md := (yX7_init, cX7_init, 1, none, [])
theorem mw_X7_init : MwI mX7_init 0 := ⟨⟨big_at 330 (by decide +kernel) rfl, big_at 56 (by decide +kernel) rfl, ⟨by decide +kernel, by decide +kernel⟩, by decide +kernel⟩, rfl, big_at 329 (by decide +kernel) rfl⟩
abbrev mX10_degree : Md := (yX10_degree, cX10_degree, 2, (some .int), [])
theorem mw_X10_degree : MwV mX10_degree 1 := ⟨⟨big_at 388 (by decide +kernel) rfl, big_at 46 (by decide +kernel) rfl, ⟨by decide +kernel, by decide +kernel⟩, by decide +kernel⟩, big_at 386 (by decide +kernel) rfl, big_at 387 (by decide +kernel) rfl⟩
abbrev mX10_requireVertex : Md := (yX10_requireVertex, cX10_requireVertex, 2, none, [])
theorem mw_X10_requireVertex : MwV mX10_requireVertex 1 := ⟨⟨big_at 392 (by decide +kernel) rfl, big_at 46 (by decide +kernel) rfl, ⟨by decide +kernel, by decide +kernel⟩, by decide +kernel⟩, big_at 391 (by decide +kernel) rfl, big_at 0 (by decide +kernel) rfl⟩
abbrev mX3_sumOfWeights : Md := (yX3_sumOfWeights, cX3_sumOfWeights, 4, (some .int), [])
theorem mw_X3_sumOfWeights : MwV mX3_sumOfWeights 1 := ⟨⟨big_at 463 (by decide +kernel) rfl, big_at 47 (by decide +kernel) rfl, ⟨by decide +kernel, by decide +kernel⟩, by decide +kernel⟩, big_at 461 (by decide +kernel) rfl, big_at 462 (by decide +kernel) rfl⟩
abbrev mX3_weightBetween : Md := (yX3_weightBetween, cX3_weightBetween, 3, (some .int), [])
theorem mw_X3_weightBetween : MwV mX3_weightBetween 2 := ⟨⟨big_at 467 (by decide +kernel) rfl, big_at 47 (by decide +kernel) rfl, ⟨by decide +kernel, by decide +kernel⟩, by decide +kernel⟩, big_at 465 (by decide +kernel) rfl, big_at 466 (by decide +kernel) rfl⟩
abbrev mX10_trees : Md := (yX10_trees, cX10_trees, 1, (some .long), [])
theorem mw_X10_trees : MwV mX10_trees 0 := ⟨⟨big_at 471 (by decide +kernel) rfl, big_at 46 (by decide +kernel) rfl, ⟨by decide +kernel, by decide +kernel⟩, by decide +kernel⟩, big_at 469 (by decide +kernel) rfl, big_at 470 (by decide +kernel) rfl⟩
abbrev mX10_countTrees : Md := (yX10_countTrees, cX10_countTrees, 1, (some .long), [])
theorem mw_X10_countTrees : MwV mX10_countTrees 0 := ⟨⟨big_at 475 (by decide +kernel) rfl, big_at 46 (by decide +kernel) rfl, ⟨by decide +kernel, by decide +kernel⟩, by decide +kernel⟩, big_at 474 (by decide +kernel) rfl, big_at 2 (by decide +kernel) rfl⟩
abbrev mX1_treesOf : Md := (yX1_treesOf, cX1_treesOf, 3, (some .long), [])
theorem mw_X1_treesOf : MwV mX1_treesOf 1 := ⟨⟨big_at 479 (by decide +kernel) rfl, big_at 53 (by decide +kernel) rfl, ⟨by decide +kernel, by decide +kernel⟩, by decide +kernel⟩, big_at 477 (by decide +kernel) rfl, big_at 478 (by decide +kernel) rfl⟩
abbrev mX1_build : Md := (yX1_build, cX1_build, 8, none, [])
theorem mw_X1_build : MwV mX1_build 4 := ⟨⟨big_at 483 (by decide +kernel) rfl, big_at 53 (by decide +kernel) rfl, ⟨by decide +kernel, by decide +kernel⟩, by decide +kernel⟩, big_at 482 (by decide +kernel) rfl, big_at 3 (by decide +kernel) rfl⟩
abbrev mX1_putCell : Md := (yX1_putCell, cX1_putCell, 5, none, [])
theorem mw_X1_putCell : MwV mX1_putCell 3 := ⟨⟨big_at 489 (by decide +kernel) rfl, big_at 53 (by decide +kernel) rfl, ⟨by decide +kernel, by decide +kernel⟩, by decide +kernel⟩, big_at 488 (by decide +kernel) rfl, big_at 4 (by decide +kernel) rfl⟩
abbrev mX1_eliminate : Md := (yX1_eliminate, cX1_eliminate, 10, (some .boolean), [])
theorem mw_X1_eliminate : MwV mX1_eliminate 0 := ⟨⟨big_at 493 (by decide +kernel) rfl, big_at 53 (by decide +kernel) rfl, ⟨by decide +kernel, by decide +kernel⟩, by decide +kernel⟩, big_at 492 (by decide +kernel) rfl, big_at 5 (by decide +kernel) rfl⟩
abbrev mX1_cell : Md := (yX1_cell, cX1_cell, 3, (some .long), [])
theorem mw_X1_cell : MwV mX1_cell 2 := ⟨⟨big_at 497 (by decide +kernel) rfl, big_at 53 (by decide +kernel) rfl, ⟨by decide +kernel, by decide +kernel⟩, by decide +kernel⟩, big_at 496 (by decide +kernel) rfl, big_at 6 (by decide +kernel) rfl⟩
abbrev mX10_absorbing : Md := (yX10_absorbing, cX10_absorbing, 1, (some .int), [])
theorem mw_X10_absorbing : MwV mX10_absorbing 0 := ⟨⟨big_at 501 (by decide +kernel) rfl, big_at 46 (by decide +kernel) rfl, ⟨by decide +kernel, by decide +kernel⟩, by decide +kernel⟩, big_at 499 (by decide +kernel) rfl, big_at 500 (by decide +kernel) rfl⟩
abbrev mX10_after : Md := (yX10_after, cX10_after, 4, (some .float), [])
theorem mw_X10_after : MwV mX10_after 3 := ⟨⟨big_at 505 (by decide +kernel) rfl, big_at 46 (by decide +kernel) rfl, ⟨by decide +kernel, by decide +kernel⟩, by decide +kernel⟩, big_at 503 (by decide +kernel) rfl, big_at 504 (by decide +kernel) rfl⟩
abbrev mX7_chanceAfter : Md := (yX7_chanceAfter, cX7_chanceAfter, 7, (some .float), [])
theorem mw_X7_chanceAfter : MwV mX7_chanceAfter 4 := ⟨⟨big_at 525 (by decide +kernel) rfl, big_at 56 (by decide +kernel) rfl, ⟨by decide +kernel, by decide +kernel⟩, by decide +kernel⟩, big_at 523 (by decide +kernel) rfl, big_at 524 (by decide +kernel) rfl⟩
abbrev mX7_fillChances : Md := (yX7_fillChances, cX7_fillChances, 4, none, [])
theorem mw_X7_fillChances : MwV mX7_fillChances 1 := ⟨⟨big_at 529 (by decide +kernel) rfl, big_at 56 (by decide +kernel) rfl, ⟨by decide +kernel, by decide +kernel⟩, by decide +kernel⟩, big_at 528 (by decide +kernel) rfl, big_at 7 (by decide +kernel) rfl⟩
abbrev mX3_stepChance : Md := (yX3_stepChance, cX3_stepChance, 5, none, [])
theorem mw_X3_stepChance : MwV mX3_stepChance 3 := ⟨⟨big_at 533 (by decide +kernel) rfl, big_at 47 (by decide +kernel) rfl, ⟨by decide +kernel, by decide +kernel⟩, by decide +kernel⟩, big_at 531 (by decide +kernel) rfl, big_at 532 (by decide +kernel) rfl⟩
abbrev mX2_put : Md := (yX2_put, cX2_put, 7, none, [])
theorem mw_X2_put : MwV mX2_put 2 := ⟨⟨big_at 538 (by decide +kernel) rfl, big_at 54 (by decide +kernel) rfl, ⟨by decide +kernel, by decide +kernel⟩, by decide +kernel⟩, big_at 536 (by decide +kernel) rfl, big_at 537 (by decide +kernel) rfl⟩
abbrev mX2_commonDivisor : Md := (yX2_commonDivisor, cX2_commonDivisor, 11, (some .long), [])
theorem mw_X2_commonDivisor : MwS mX2_commonDivisor 2 := ⟨⟨big_at 541 (by decide +kernel) rfl, big_at 54 (by decide +kernel) rfl, ⟨by decide +kernel, by decide +kernel⟩, by decide +kernel⟩, big_at 540 (by decide +kernel) rfl⟩
abbrev mJ9_abs_067f4 : Md := (yJ9_abs_067f4, cJ9_abs_067f4, 2, (some .long), [])
theorem mw_J9_abs_067f4 : MwS mJ9_abs_067f4 1 := ⟨⟨big_at 544 (by decide +kernel) rfl, big_at 62 (by decide +kernel) rfl, ⟨by decide +kernel, by decide +kernel⟩, by decide +kernel⟩, big_at 543 (by decide +kernel) rfl⟩
abbrev mX7_chanceAt : Md := (yX7_chanceAt, cX7_chanceAt, 6, (some .float), [])
theorem mw_X7_chanceAt : MwV mX7_chanceAt 2 := ⟨⟨big_at 548 (by decide +kernel) rfl, big_at 56 (by decide +kernel) rfl, ⟨by decide +kernel, by decide +kernel⟩, by decide +kernel⟩, big_at 547 (by decide +kernel) rfl, big_at 8 (by decide +kernel) rfl⟩
abbrev mL_init : Md := (yL_init, cL_init, 1, none, [])
theorem mw_L_init : MwI mL_init 0 := ⟨⟨big_at 556 (by decide +kernel) rfl, big_at 45 (by decide +kernel) rfl, ⟨by decide +kernel, by decide +kernel⟩, by decide +kernel⟩, rfl, big_at 555 (by decide +kernel) rfl⟩
abbrev mL_cell : Md := (yL_cell, cL_cell, 2, (some .int), [])
theorem mw_L_cell : MwS mL_cell 2 := ⟨⟨big_at 587 (by decide +kernel) rfl, big_at 45 (by decide +kernel) rfl, ⟨by decide +kernel, by decide +kernel⟩, by decide +kernel⟩, big_at 586 (by decide +kernel) rfl⟩
abbrev mL_bound : Md := (yL_bound, cL_bound, 2, (some .int), [])
theorem mw_L_bound : MwS mL_bound 2 := ⟨⟨big_at 590 (by decide +kernel) rfl, big_at 45 (by decide +kernel) rfl, ⟨by decide +kernel, by decide +kernel⟩, by decide +kernel⟩, big_at 589 (by decide +kernel) rfl⟩
abbrev mL_read : Md := (yL_read, cL_read, 5, (some .int), [])
theorem mw_L_read : MwS mL_read 2 := ⟨⟨big_at 594 (by decide +kernel) rfl, big_at 45 (by decide +kernel) rfl, ⟨by decide +kernel, by decide +kernel⟩, by decide +kernel⟩, big_at 593 (by decide +kernel) rfl⟩
abbrev mJ0_length_8abf5 : Md := (yJ0_length_8abf5, cJ0_length_8abf5, 1, (some .int), [])
theorem mw_J0_length_8abf5 : MwV mJ0_length_8abf5 0 := ⟨⟨big_at 598 (by decide +kernel) rfl, big_at 59 (by decide +kernel) rfl, ⟨by decide +kernel, by decide +kernel⟩, by decide +kernel⟩, big_at 596 (by decide +kernel) rfl, big_at 597 (by decide +kernel) rfl⟩
abbrev mJ0_coder_7d493 : Md := (yJ0_coder_7d493, cJ0_coder_7d493, 1, (some .byte), [])
theorem mw_J0_coder_7d493 : MwV mJ0_coder_7d493 0 := ⟨⟨big_at 602 (by decide +kernel) rfl, big_at 59 (by decide +kernel) rfl, ⟨by decide +kernel, by decide +kernel⟩, by decide +kernel⟩, big_at 600 (by decide +kernel) rfl, big_at 601 (by decide +kernel) rfl⟩
abbrev mJ0_charAt_5068e : Md := (yJ0_charAt_5068e, cJ0_charAt_5068e, 2, (some .char), [])
theorem mw_J0_charAt_5068e : MwV mJ0_charAt_5068e 1 := ⟨⟨big_at 608 (by decide +kernel) rfl, big_at 59 (by decide +kernel) rfl, ⟨by decide +kernel, by decide +kernel⟩, by decide +kernel⟩, big_at 606 (by decide +kernel) rfl, big_at 607 (by decide +kernel) rfl⟩
abbrev mJ0_isLatin1_aae02 : Md := (yJ0_isLatin1_aae02, cJ0_isLatin1_aae02, 1, (some .boolean), [])
theorem mw_J0_isLatin1_aae02 : MwV mJ0_isLatin1_aae02 0 := ⟨⟨big_at 612 (by decide +kernel) rfl, big_at 59 (by decide +kernel) rfl, ⟨by decide +kernel, by decide +kernel⟩, by decide +kernel⟩, big_at 610 (by decide +kernel) rfl, big_at 611 (by decide +kernel) rfl⟩
abbrev mJ1_charAt_3b067 : Md := (yJ1_charAt_3b067, cJ1_charAt_3b067, 2, (some .char), [])
theorem mw_J1_charAt_3b067 : MwS mJ1_charAt_3b067 2 := ⟨⟨big_at 615 (by decide +kernel) rfl, big_at 66 (by decide +kernel) rfl, ⟨by decide +kernel, by decide +kernel⟩, by decide +kernel⟩, big_at 614 (by decide +kernel) rfl⟩
abbrev mJ0_checkIndex_df160 : Md := (yJ0_checkIndex_df160, cJ0_checkIndex_df160, 2, none, [])
theorem mw_J0_checkIndex_df160 : MwS mJ0_checkIndex_df160 2 := ⟨⟨big_at 618 (by decide +kernel) rfl, big_at 59 (by decide +kernel) rfl, ⟨by decide +kernel, by decide +kernel⟩, by decide +kernel⟩, big_at 617 (by decide +kernel) rfl⟩
abbrev mJ3_checkIndex_8e157 : Md := (yJ3_checkIndex_8e157, cJ3_checkIndex_8e157, 3, (some .int), [])
theorem mw_J3_checkIndex_8e157 : MwS mJ3_checkIndex_8e157 3 := ⟨⟨big_at 623 (by decide +kernel) rfl, big_at 65 (by decide +kernel) rfl, ⟨by decide +kernel, by decide +kernel⟩, by decide +kernel⟩, big_at 622 (by decide +kernel) rfl⟩
abbrev mJ2_charAt_3b067 : Md := (yJ2_charAt_3b067, cJ2_charAt_3b067, 2, (some .char), [])
theorem mw_J2_charAt_3b067 : MwS mJ2_charAt_3b067 2 := ⟨⟨big_at 626 (by decide +kernel) rfl, big_at 60 (by decide +kernel) rfl, ⟨by decide +kernel, by decide +kernel⟩, by decide +kernel⟩, big_at 625 (by decide +kernel) rfl⟩
abbrev mJ2_checkIndex_2214a : Md := (yJ2_checkIndex_2214a, cJ2_checkIndex_2214a, 2, none, [])
theorem mw_J2_checkIndex_2214a : MwS mJ2_checkIndex_2214a 2 := ⟨⟨big_at 629 (by decide +kernel) rfl, big_at 60 (by decide +kernel) rfl, ⟨by decide +kernel, by decide +kernel⟩, by decide +kernel⟩, big_at 628 (by decide +kernel) rfl⟩
abbrev mJ2_length_9d52b : Md := (yJ2_length_9d52b, cJ2_length_9d52b, 1, (some .int), [])
theorem mw_J2_length_9d52b : MwS mJ2_length_9d52b 1 := ⟨⟨big_at 632 (by decide +kernel) rfl, big_at 60 (by decide +kernel) rfl, ⟨by decide +kernel, by decide +kernel⟩, by decide +kernel⟩, big_at 631 (by decide +kernel) rfl⟩
abbrev mJ2_getChar_3b067 : Md := (yJ2_getChar_3b067, cJ2_getChar_3b067, 2, (some .char), [])
theorem mw_J2_getChar_3b067 : MwS mJ2_getChar_3b067 2 := ⟨⟨big_at 636 (by decide +kernel) rfl, big_at 60 (by decide +kernel) rfl, ⟨by decide +kernel, by decide +kernel⟩, by decide +kernel⟩, big_at 635 (by decide +kernel) rfl⟩
abbrev mX10_append : Md := (yX10_append, cX10_append, 7, (some .int), [])
theorem mw_X10_append : MwV mX10_append 5 := ⟨⟨big_at 646 (by decide +kernel) rfl, big_at 46 (by decide +kernel) rfl, ⟨by decide +kernel, by decide +kernel⟩, by decide +kernel⟩, big_at 644 (by decide +kernel) rfl, big_at 645 (by decide +kernel) rfl⟩
abbrev mX9_hold : Md := (yX9_hold, cX9_hold, 3, none, [])
theorem mw_X9_hold : MwV mX9_hold 1 := ⟨⟨big_at 650 (by decide +kernel) rfl, big_at 50 (by decide +kernel) rfl, ⟨by decide +kernel, by decide +kernel⟩, by decide +kernel⟩, big_at 648 (by decide +kernel) rfl, big_at 649 (by decide +kernel) rfl⟩
abbrev mX10_load : Md := (yX10_load, cX10_load, 3, (some .int), [])
theorem mw_X10_load : MwV mX10_load 1 := ⟨⟨big_at 654 (by decide +kernel) rfl, big_at 46 (by decide +kernel) rfl, ⟨by decide +kernel, by decide +kernel⟩, by decide +kernel⟩, big_at 652 (by decide +kernel) rfl, big_at 653 (by decide +kernel) rfl⟩
abbrev mX9_scan : Md := (yX9_scan, cX9_scan, 5, none, [])
theorem mw_X9_scan : MwV mX9_scan 1 := ⟨⟨big_at 659 (by decide +kernel) rfl, big_at 50 (by decide +kernel) rfl, ⟨by decide +kernel, by decide +kernel⟩, by decide +kernel⟩, big_at 657 (by decide +kernel) rfl, big_at 658 (by decide +kernel) rfl⟩
abbrev mJ9_min_7cf53 : Md := (yJ9_min_7cf53, cJ9_min_7cf53, 2, (some .int), [])
theorem mw_J9_min_7cf53 : MwS mJ9_min_7cf53 2 := ⟨⟨big_at 662 (by decide +kernel) rfl, big_at 62 (by decide +kernel) rfl, ⟨by decide +kernel, by decide +kernel⟩, by decide +kernel⟩, big_at 661 (by decide +kernel) rfl⟩
abbrev mX9_scanToken : Md := (yX9_scanToken, cX9_scanToken, 3, (some .int), [])
theorem mw_X9_scanToken : MwV mX9_scanToken 2 := ⟨⟨big_at 666 (by decide +kernel) rfl, big_at 50 (by decide +kernel) rfl, ⟨by decide +kernel, by decide +kernel⟩, by decide +kernel⟩, big_at 665 (by decide +kernel) rfl, big_at 9 (by decide +kernel) rfl⟩
abbrev mX9_isDigit : Md := (yX9_isDigit, cX9_isDigit, 1, (some .boolean), [])
theorem mw_X9_isDigit : MwS mX9_isDigit 1 := ⟨⟨big_at 669 (by decide +kernel) rfl, big_at 50 (by decide +kernel) rfl, ⟨by decide +kernel, by decide +kernel⟩, by decide +kernel⟩, big_at 668 (by decide +kernel) rfl⟩
abbrev mX9_scanNumber : Md := (yX9_scanNumber, cX9_scanNumber, 5, (some .int), [])
theorem mw_X9_scanNumber : MwV mX9_scanNumber 2 := ⟨⟨big_at 673 (by decide +kernel) rfl, big_at 50 (by decide +kernel) rfl, ⟨by decide +kernel, by decide +kernel⟩, by decide +kernel⟩, big_at 672 (by decide +kernel) rfl, big_at 10 (by decide +kernel) rfl⟩
abbrev mX9_put : Md := (yX9_put, cX9_put, 4, none, [])
theorem mw_X9_put : MwV mX9_put 3 := ⟨⟨big_at 677 (by decide +kernel) rfl, big_at 50 (by decide +kernel) rfl, ⟨by decide +kernel, by decide +kernel⟩, by decide +kernel⟩, big_at 676 (by decide +kernel) rfl, big_at 11 (by decide +kernel) rfl⟩
abbrev mX9_isLetter : Md := (yX9_isLetter, cX9_isLetter, 1, (some .boolean), [])
theorem mw_X9_isLetter : MwS mX9_isLetter 1 := ⟨⟨big_at 680 (by decide +kernel) rfl, big_at 50 (by decide +kernel) rfl, ⟨by decide +kernel, by decide +kernel⟩, by decide +kernel⟩, big_at 679 (by decide +kernel) rfl⟩
abbrev mX9_scanWord : Md := (yX9_scanWord, cX9_scanWord, 4, (some .int), [])
theorem mw_X9_scanWord : MwV mX9_scanWord 2 := ⟨⟨big_at 684 (by decide +kernel) rfl, big_at 50 (by decide +kernel) rfl, ⟨by decide +kernel, by decide +kernel⟩, by decide +kernel⟩, big_at 683 (by decide +kernel) rfl, big_at 12 (by decide +kernel) rfl⟩
abbrev mX9_kindOfWord : Md := (yX9_kindOfWord, cX9_kindOfWord, 3, (some .int), [])
theorem mw_X9_kindOfWord : MwV mX9_kindOfWord 2 := ⟨⟨big_at 688 (by decide +kernel) rfl, big_at 50 (by decide +kernel) rfl, ⟨by decide +kernel, by decide +kernel⟩, by decide +kernel⟩, big_at 687 (by decide +kernel) rfl, big_at 13 (by decide +kernel) rfl⟩
abbrev mX9_isWord : Md := (yX9_isWord, cX9_isWord, 5, (some .boolean), [])
theorem mw_X9_isWord : MwV mX9_isWord 3 := ⟨⟨big_at 693 (by decide +kernel) rfl, big_at 50 (by decide +kernel) rfl, ⟨by decide +kernel, by decide +kernel⟩, by decide +kernel⟩, big_at 692 (by decide +kernel) rfl, big_at 14 (by decide +kernel) rfl⟩
abbrev mX6_readSetup : Md := (yX6_readSetup, cX6_readSetup, 2, (some .boolean), [])
theorem mw_X6_readSetup : MwV mX6_readSetup 0 := ⟨⟨big_at 706 (by decide +kernel) rfl, big_at 49 (by decide +kernel) rfl, ⟨by decide +kernel, by decide +kernel⟩, by decide +kernel⟩, big_at 704 (by decide +kernel) rfl, big_at 705 (by decide +kernel) rfl⟩
abbrev mX6_takeToken : Md := (yX6_takeToken, cX6_takeToken, 1, none, [])
theorem mw_X6_takeToken : MwV mX6_takeToken 0 := ⟨⟨big_at 710 (by decide +kernel) rfl, big_at 49 (by decide +kernel) rfl, ⟨by decide +kernel, by decide +kernel⟩, by decide +kernel⟩, big_at 709 (by decide +kernel) rfl, big_at 15 (by decide +kernel) rfl⟩
abbrev mX6_fail : Md := (yX6_fail, cX6_fail, 2, (some .boolean), [])
theorem mw_X6_fail : MwV mX6_fail 1 := ⟨⟨big_at 714 (by decide +kernel) rfl, big_at 49 (by decide +kernel) rfl, ⟨by decide +kernel, by decide +kernel⟩, by decide +kernel⟩, big_at 713 (by decide +kernel) rfl, big_at 16 (by decide +kernel) rfl⟩
abbrev mX6_readNumber : Md := (yX6_readNumber, cX6_readNumber, 3, (some .boolean), [])
theorem mw_X6_readNumber : MwV mX6_readNumber 2 := ⟨⟨big_at 718 (by decide +kernel) rfl, big_at 49 (by decide +kernel) rfl, ⟨by decide +kernel, by decide +kernel⟩, by decide +kernel⟩, big_at 717 (by decide +kernel) rfl, big_at 17 (by decide +kernel) rfl⟩
abbrev mX3_clear : Md := (yX3_clear, cX3_clear, 3, none, [])
theorem mw_X3_clear : MwV mX3_clear 1 := ⟨⟨big_at 722 (by decide +kernel) rfl, big_at 47 (by decide +kernel) rfl, ⟨by decide +kernel, by decide +kernel⟩, by decide +kernel⟩, big_at 720 (by decide +kernel) rfl, big_at 721 (by decide +kernel) rfl⟩
abbrev mJ9_max_7cf53 : Md := (yJ9_max_7cf53, cJ9_max_7cf53, 2, (some .int), [])
theorem mw_J9_max_7cf53 : MwS mJ9_max_7cf53 2 := ⟨⟨big_at 726 (by decide +kernel) rfl, big_at 62 (by decide +kernel) rfl, ⟨by decide +kernel, by decide +kernel⟩, by decide +kernel⟩, big_at 725 (by decide +kernel) rfl⟩
abbrev mJ7_fill_53178 : Md := (yJ7_fill_53178, cJ7_fill_53178, 4, none, [])
theorem mw_J7_fill_53178 : MwS mJ7_fill_53178 2 := ⟨⟨big_at 729 (by decide +kernel) rfl, big_at 63 (by decide +kernel) rfl, ⟨by decide +kernel, by decide +kernel⟩, by decide +kernel⟩, big_at 728 (by decide +kernel) rfl⟩
abbrev mX6_readSemicolon : Md := (yX6_readSemicolon, cX6_readSemicolon, 1, (some .boolean), [])
theorem mw_X6_readSemicolon : MwV mX6_readSemicolon 0 := ⟨⟨big_at 733 (by decide +kernel) rfl, big_at 49 (by decide +kernel) rfl, ⟨by decide +kernel, by decide +kernel⟩, by decide +kernel⟩, big_at 732 (by decide +kernel) rfl, big_at 18 (by decide +kernel) rfl⟩
abbrev mX6_readStatement : Md := (yX6_readStatement, cX6_readStatement, 1, (some .boolean), [])
theorem mw_X6_readStatement : MwV mX6_readStatement 0 := ⟨⟨big_at 737 (by decide +kernel) rfl, big_at 49 (by decide +kernel) rfl, ⟨by decide +kernel, by decide +kernel⟩, by decide +kernel⟩, big_at 736 (by decide +kernel) rfl, big_at 19 (by decide +kernel) rfl⟩
abbrev mX6_readEdge : Md := (yX6_readEdge, cX6_readEdge, 3, (some .boolean), [])
theorem mw_X6_readEdge : MwV mX6_readEdge 0 := ⟨⟨big_at 741 (by decide +kernel) rfl, big_at 49 (by decide +kernel) rfl, ⟨by decide +kernel, by decide +kernel⟩, by decide +kernel⟩, big_at 740 (by decide +kernel) rfl, big_at 20 (by decide +kernel) rfl⟩
abbrev mX6_readVertex : Md := (yX6_readVertex, cX6_readVertex, 1, (some .boolean), [])
theorem mw_X6_readVertex : MwV mX6_readVertex 0 := ⟨⟨big_at 745 (by decide +kernel) rfl, big_at 49 (by decide +kernel) rfl, ⟨by decide +kernel, by decide +kernel⟩, by decide +kernel⟩, big_at 744 (by decide +kernel) rfl, big_at 21 (by decide +kernel) rfl⟩
abbrev mX3_putEdge : Md := (yX3_putEdge, cX3_putEdge, 4, none, [])
theorem mw_X3_putEdge : MwV mX3_putEdge 3 := ⟨⟨big_at 750 (by decide +kernel) rfl, big_at 47 (by decide +kernel) rfl, ⟨by decide +kernel, by decide +kernel⟩, by decide +kernel⟩, big_at 748 (by decide +kernel) rfl, big_at 749 (by decide +kernel) rfl⟩
abbrev mX3_putWeight : Md := (yX3_putWeight, cX3_putWeight, 4, none, [])
theorem mw_X3_putWeight : MwV mX3_putWeight 3 := ⟨⟨big_at 754 (by decide +kernel) rfl, big_at 47 (by decide +kernel) rfl, ⟨by decide +kernel, by decide +kernel⟩, by decide +kernel⟩, big_at 752 (by decide +kernel) rfl, big_at 753 (by decide +kernel) rfl⟩
abbrev mX6_readAbsorb : Md := (yX6_readAbsorb, cX6_readAbsorb, 1, (some .boolean), [])
theorem mw_X6_readAbsorb : MwV mX6_readAbsorb 0 := ⟨⟨big_at 758 (by decide +kernel) rfl, big_at 49 (by decide +kernel) rfl, ⟨by decide +kernel, by decide +kernel⟩, by decide +kernel⟩, big_at 757 (by decide +kernel) rfl, big_at 22 (by decide +kernel) rfl⟩
abbrev mX3_isAbsorbing : Md := (yX3_isAbsorbing, cX3_isAbsorbing, 2, (some .boolean), [])
theorem mw_X3_isAbsorbing : MwV mX3_isAbsorbing 1 := ⟨⟨big_at 762 (by decide +kernel) rfl, big_at 47 (by decide +kernel) rfl, ⟨by decide +kernel, by decide +kernel⟩, by decide +kernel⟩, big_at 760 (by decide +kernel) rfl, big_at 761 (by decide +kernel) rfl⟩
abbrev mX6_readJoin : Md := (yX6_readJoin, cX6_readJoin, 2, (some .boolean), [])
theorem mw_X6_readJoin : MwV mX6_readJoin 0 := ⟨⟨big_at 766 (by decide +kernel) rfl, big_at 49 (by decide +kernel) rfl, ⟨by decide +kernel, by decide +kernel⟩, by decide +kernel⟩, big_at 765 (by decide +kernel) rfl, big_at 23 (by decide +kernel) rfl⟩
abbrev mX3_uniteBlocks : Md := (yX3_uniteBlocks, cX3_uniteBlocks, 6, none, [])
theorem mw_X3_uniteBlocks : MwV mX3_uniteBlocks 2 := ⟨⟨big_at 770 (by decide +kernel) rfl, big_at 47 (by decide +kernel) rfl, ⟨by decide +kernel, by decide +kernel⟩, by decide +kernel⟩, big_at 768 (by decide +kernel) rfl, big_at 769 (by decide +kernel) rfl⟩
abbrev mX3_numberBlocks : Md := (yX3_numberBlocks, cX3_numberBlocks, 3, none, [])
theorem mw_X3_numberBlocks : MwV mX3_numberBlocks 0 := ⟨⟨big_at 774 (by decide +kernel) rfl, big_at 47 (by decide +kernel) rfl, ⟨by decide +kernel, by decide +kernel⟩, by decide +kernel⟩, big_at 773 (by decide +kernel) rfl, big_at 24 (by decide +kernel) rfl⟩
abbrev mX6_readCost : Md := (yX6_readCost, cX6_readCost, 4, (some .boolean), [])
theorem mw_X6_readCost : MwV mX6_readCost 0 := ⟨⟨big_at 779 (by decide +kernel) rfl, big_at 49 (by decide +kernel) rfl, ⟨by decide +kernel, by decide +kernel⟩, by decide +kernel⟩, big_at 778 (by decide +kernel) rfl, big_at 25 (by decide +kernel) rfl⟩
abbrev mX6_postpone : Md := (yX6_postpone, cX6_postpone, 2, none, [])
theorem mw_X6_postpone : MwV mX6_postpone 1 := ⟨⟨big_at 783 (by decide +kernel) rfl, big_at 49 (by decide +kernel) rfl, ⟨by decide +kernel, by decide +kernel⟩, by decide +kernel⟩, big_at 782 (by decide +kernel) rfl, big_at 26 (by decide +kernel) rfl⟩
abbrev mX6_readFactor : Md := (yX6_readFactor, cX6_readFactor, 1, (some .boolean), [])
theorem mw_X6_readFactor : MwV mX6_readFactor 0 := ⟨⟨big_at 787 (by decide +kernel) rfl, big_at 49 (by decide +kernel) rfl, ⟨by decide +kernel, by decide +kernel⟩, by decide +kernel⟩, big_at 786 (by decide +kernel) rfl, big_at 27 (by decide +kernel) rfl⟩
abbrev mX6_emit : Md := (yX6_emit, cX6_emit, 2, none, [])
theorem mw_X6_emit : MwV mX6_emit 1 := ⟨⟨big_at 791 (by decide +kernel) rfl, big_at 49 (by decide +kernel) rfl, ⟨by decide +kernel, by decide +kernel⟩, by decide +kernel⟩, big_at 790 (by decide +kernel) rfl, big_at 28 (by decide +kernel) rfl⟩
abbrev mX6_strength : Md := (yX6_strength, cX6_strength, 1, (some .int), [])
theorem mw_X6_strength : MwS mX6_strength 1 := ⟨⟨big_at 794 (by decide +kernel) rfl, big_at 49 (by decide +kernel) rfl, ⟨by decide +kernel, by decide +kernel⟩, by decide +kernel⟩, big_at 793 (by decide +kernel) rfl⟩
abbrev mX6_release : Md := (yX6_release, cX6_release, 2, none, [])
theorem mw_X6_release : MwV mX6_release 1 := ⟨⟨big_at 798 (by decide +kernel) rfl, big_at 49 (by decide +kernel) rfl, ⟨by decide +kernel, by decide +kernel⟩, by decide +kernel⟩, big_at 797 (by decide +kernel) rfl, big_at 29 (by decide +kernel) rfl⟩
abbrev mX6_operation : Md := (yX6_operation, cX6_operation, 1, (some .int), [])
theorem mw_X6_operation : MwS mX6_operation 1 := ⟨⟨big_at 801 (by decide +kernel) rfl, big_at 49 (by decide +kernel) rfl, ⟨by decide +kernel, by decide +kernel⟩, by decide +kernel⟩, big_at 800 (by decide +kernel) rfl⟩
abbrev mJ7_copyOf_59c91 : Md := (yJ7_copyOf_59c91, cJ7_copyOf_59c91, 3, (some (.array .int)), [])
theorem mw_J7_copyOf_59c91 : MwS mJ7_copyOf_59c91 2 := ⟨⟨big_at 804 (by decide +kernel) rfl, big_at 63 (by decide +kernel) rfl, ⟨by decide +kernel, by decide +kernel⟩, by decide +kernel⟩, big_at 803 (by decide +kernel) rfl⟩
abbrev mX4_keep : Md := (yX4_keep, cX4_keep, 2, none, [])
theorem mw_X4_keep : MwV mX4_keep 1 := ⟨⟨big_at 817 (by decide +kernel) rfl, big_at 48 (by decide +kernel) rfl, ⟨by decide +kernel, by decide +kernel⟩, by decide +kernel⟩, big_at 815 (by decide +kernel) rfl, big_at 816 (by decide +kernel) rfl⟩
abbrev mX3_copyFrom : Md := (yX3_copyFrom, cX3_copyFrom, 2, none, [])
theorem mw_X3_copyFrom : MwV mX3_copyFrom 1 := ⟨⟨big_at 821 (by decide +kernel) rfl, big_at 47 (by decide +kernel) rfl, ⟨by decide +kernel, by decide +kernel⟩, by decide +kernel⟩, big_at 819 (by decide +kernel) rfl, big_at 820 (by decide +kernel) rfl⟩
abbrev mL_areHits : Md := (yL_areHits, cL_areHits, 8, (some .boolean), [])
theorem mw_L_areHits : MwV mL_areHits 3 := ⟨⟨big_at 827 (by decide +kernel) rfl, big_at 45 (by decide +kernel) rfl, ⟨by decide +kernel, by decide +kernel⟩, by decide +kernel⟩, big_at 826 (by decide +kernel) rfl, big_at 30 (by decide +kernel) rfl⟩
abbrev mL_reached : Md := (yL_reached, cL_reached, 6, (some (.array .boolean)), [])
theorem mw_L_reached : MwV mL_reached 1 := ⟨⟨big_at 831 (by decide +kernel) rfl, big_at 45 (by decide +kernel) rfl, ⟨by decide +kernel, by decide +kernel⟩, by decide +kernel⟩, big_at 830 (by decide +kernel) rfl, big_at 31 (by decide +kernel) rfl⟩
abbrev mX10_hittingCost : Md := (yX10_hittingCost, cX10_hittingCost, 4, (some .long), [])
theorem mw_X10_hittingCost : MwV mX10_hittingCost 3 := ⟨⟨big_at 835 (by decide +kernel) rfl, big_at 46 (by decide +kernel) rfl, ⟨by decide +kernel, by decide +kernel⟩, by decide +kernel⟩, big_at 833 (by decide +kernel) rfl, big_at 834 (by decide +kernel) rfl⟩
abbrev mX10_requireWay : Md := (yX10_requireWay, cX10_requireWay, 3, none, [])
theorem mw_X10_requireWay : MwV mX10_requireWay 2 := ⟨⟨big_at 839 (by decide +kernel) rfl, big_at 46 (by decide +kernel) rfl, ⟨by decide +kernel, by decide +kernel⟩, by decide +kernel⟩, big_at 838 (by decide +kernel) rfl, big_at 32 (by decide +kernel) rfl⟩
abbrev mX3_hasWay : Md := (yX3_hasWay, cX3_hasWay, 3, (some .boolean), [])
theorem mw_X3_hasWay : MwV mX3_hasWay 2 := ⟨⟨big_at 843 (by decide +kernel) rfl, big_at 47 (by decide +kernel) rfl, ⟨by decide +kernel, by decide +kernel⟩, by decide +kernel⟩, big_at 841 (by decide +kernel) rfl, big_at 842 (by decide +kernel) rfl⟩
abbrev mX3_component : Md := (yX3_component, cX3_component, 5, (some .int), [])
theorem mw_X3_component : MwV mX3_component 1 := ⟨⟨big_at 847 (by decide +kernel) rfl, big_at 47 (by decide +kernel) rfl, ⟨by decide +kernel, by decide +kernel⟩, by decide +kernel⟩, big_at 845 (by decide +kernel) rfl, big_at 846 (by decide +kernel) rfl⟩
abbrev mX3_neighbours : Md := (yX3_neighbours, cX3_neighbours, 4, (some .int), [])
theorem mw_X3_neighbours : MwV mX3_neighbours 1 := ⟨⟨big_at 851 (by decide +kernel) rfl, big_at 47 (by decide +kernel) rfl, ⟨by decide +kernel, by decide +kernel⟩, by decide +kernel⟩, big_at 850 (by decide +kernel) rfl, big_at 33 (by decide +kernel) rfl⟩
abbrev mX10_gainCosts : Md := (yX10_gainCosts, cX10_gainCosts, 5, none, [])
theorem mw_X10_gainCosts : MwV mX10_gainCosts 0 := ⟨⟨big_at 872 (by decide +kernel) rfl, big_at 46 (by decide +kernel) rfl, ⟨by decide +kernel, by decide +kernel⟩, by decide +kernel⟩, big_at 871 (by decide +kernel) rfl, big_at 34 (by decide +kernel) rfl⟩
abbrev mX0_fillTable : Md := (yX0_fillTable, cX0_fillTable, 5, none, [])
theorem mw_X0_fillTable : MwV mX0_fillTable 1 := ⟨⟨big_at 876 (by decide +kernel) rfl, big_at 51 (by decide +kernel) rfl, ⟨by decide +kernel, by decide +kernel⟩, by decide +kernel⟩, big_at 874 (by decide +kernel) rfl, big_at 875 (by decide +kernel) rfl⟩
abbrev mX0_costOfStep : Md := (yX0_costOfStep, cX0_costOfStep, 5, (some .int), [])
theorem mw_X0_costOfStep : MwV mX0_costOfStep 3 := ⟨⟨big_at 881 (by decide +kernel) rfl, big_at 51 (by decide +kernel) rfl, ⟨by decide +kernel, by decide +kernel⟩, by decide +kernel⟩, big_at 879 (by decide +kernel) rfl, big_at 880 (by decide +kernel) rfl⟩
abbrev mX0_evaluate : Md := (yX0_evaluate, cX0_evaluate, 8, (some .int), [])
theorem mw_X0_evaluate : MwV mX0_evaluate 4 := ⟨⟨big_at 886 (by decide +kernel) rfl, big_at 51 (by decide +kernel) rfl, ⟨by decide +kernel, by decide +kernel⟩, by decide +kernel⟩, big_at 885 (by decide +kernel) rfl, big_at 35 (by decide +kernel) rfl⟩
abbrev mX0_operand : Md := (yX0_operand, cX0_operand, 4, (some .int), [])
theorem mw_X0_operand : MwS mX0_operand 4 := ⟨⟨big_at 889 (by decide +kernel) rfl, big_at 51 (by decide +kernel) rfl, ⟨by decide +kernel, by decide +kernel⟩, by decide +kernel⟩, big_at 888 (by decide +kernel) rfl⟩
abbrev mX0_operate : Md := (yX0_operate, cX0_operate, 7, (some .int), [])
theorem mw_X0_operate : MwS mX0_operate 3 := ⟨⟨big_at 892 (by decide +kernel) rfl, big_at 51 (by decide +kernel) rfl, ⟨by decide +kernel, by decide +kernel⟩, by decide +kernel⟩, big_at 891 (by decide +kernel) rfl⟩
abbrev mJ9_min_f86c9 : Md := (yJ9_min_f86c9, cJ9_min_f86c9, 4, (some .long), [])
theorem mw_J9_min_f86c9 : MwS mJ9_min_f86c9 2 := ⟨⟨big_at 897 (by decide +kernel) rfl, big_at 62 (by decide +kernel) rfl, ⟨by decide +kernel, by decide +kernel⟩, by decide +kernel⟩, big_at 896 (by decide +kernel) rfl⟩
abbrev mJ9_max_f86c9 : Md := (yJ9_max_f86c9, cJ9_max_f86c9, 4, (some .long), [])
theorem mw_J9_max_f86c9 : MwS mJ9_max_f86c9 2 := ⟨⟨big_at 900 (by decide +kernel) rfl, big_at 62 (by decide +kernel) rfl, ⟨by decide +kernel, by decide +kernel⟩, by decide +kernel⟩, big_at 899 (by decide +kernel) rfl⟩
abbrev mX0_tabled : Md := (yX0_tabled, cX0_tabled, 3, (some .int), [])
theorem mw_X0_tabled : MwV mX0_tabled 2 := ⟨⟨big_at 907 (by decide +kernel) rfl, big_at 51 (by decide +kernel) rfl, ⟨by decide +kernel, by decide +kernel⟩, by decide +kernel⟩, big_at 905 (by decide +kernel) rfl, big_at 906 (by decide +kernel) rfl⟩
abbrev mX1_meanUntil : Md := (yX1_meanUntil, cX1_meanUntil, 6, none, [])
theorem mw_X1_meanUntil : MwV mX1_meanUntil 5 := ⟨⟨big_at 911 (by decide +kernel) rfl, big_at 53 (by decide +kernel) rfl, ⟨by decide +kernel, by decide +kernel⟩, by decide +kernel⟩, big_at 909 (by decide +kernel) rfl, big_at 910 (by decide +kernel) rfl⟩
abbrev mX1_solve : Md := (yX1_solve, cX1_solve, 6, none, [])
theorem mw_X1_solve : MwV mX1_solve 5 := ⟨⟨big_at 917 (by decide +kernel) rfl, big_at 53 (by decide +kernel) rfl, ⟨by decide +kernel, by decide +kernel⟩, by decide +kernel⟩, big_at 915 (by decide +kernel) rfl, big_at 916 (by decide +kernel) rfl⟩
abbrev mX2_part : Md := (yX2_part, cX2_part, 2, (some .long), [])
theorem mw_X2_part : MwV mX2_part 1 := ⟨⟨big_at 921 (by decide +kernel) rfl, big_at 54 (by decide +kernel) rfl, ⟨by decide +kernel, by decide +kernel⟩, by decide +kernel⟩, big_at 919 (by decide +kernel) rfl, big_at 920 (by decide +kernel) rfl⟩
abbrev mX10_hittingTime : Md := (yX10_hittingTime, cX10_hittingTime, 4, (some .long), [])
theorem mw_X10_hittingTime : MwV mX10_hittingTime 3 := ⟨⟨big_at 925 (by decide +kernel) rfl, big_at 46 (by decide +kernel) rfl, ⟨by decide +kernel, by decide +kernel⟩, by decide +kernel⟩, big_at 923 (by decide +kernel) rfl, big_at 924 (by decide +kernel) rfl⟩
abbrev mX10_gainSteps : Md := (yX10_gainSteps, cX10_gainSteps, 2, none, [])
theorem mw_X10_gainSteps : MwV mX10_gainSteps 0 := ⟨⟨big_at 929 (by decide +kernel) rfl, big_at 46 (by decide +kernel) rfl, ⟨by decide +kernel, by decide +kernel⟩, by decide +kernel⟩, big_at 928 (by decide +kernel) rfl, big_at 36 (by decide +kernel) rfl⟩
abbrev mL_divisor : Md := (yL_divisor, cL_divisor, 4, (some .long), [])
theorem mw_L_divisor : MwS mL_divisor 2 := ⟨⟨big_at 932 (by decide +kernel) rfl, big_at 45 (by decide +kernel) rfl, ⟨by decide +kernel, by decide +kernel⟩, by decide +kernel⟩, big_at 931 (by decide +kernel) rfl⟩
abbrev mL_isMean : Md := (yL_isMean, cL_isMean, 13, (some .boolean), [])
theorem mw_L_isMean : MwV mL_isMean 5 := ⟨⟨big_at 936 (by decide +kernel) rfl, big_at 45 (by decide +kernel) rfl, ⟨by decide +kernel, by decide +kernel⟩, by decide +kernel⟩, big_at 935 (by decide +kernel) rfl, big_at 37 (by decide +kernel) rfl⟩
abbrev mL_isAbsorbing : Md := (yL_isAbsorbing, cL_isAbsorbing, 2, (some .boolean), [])
theorem mw_L_isAbsorbing : MwV mL_isAbsorbing 1 := ⟨⟨big_at 940 (by decide +kernel) rfl, big_at 45 (by decide +kernel) rfl, ⟨by decide +kernel, by decide +kernel⟩, by decide +kernel⟩, big_at 939 (by decide +kernel) rfl, big_at 38 (by decide +kernel) rfl⟩
abbrev mL_areAbsorptions : Md := (yL_areAbsorptions, cL_areAbsorptions, 10, (some .boolean), [])
theorem mw_L_areAbsorptions : MwV mL_areAbsorptions 2 := ⟨⟨big_at 944 (by decide +kernel) rfl, big_at 45 (by decide +kernel) rfl, ⟨by decide +kernel, by decide +kernel⟩, by decide +kernel⟩, big_at 943 (by decide +kernel) rfl, big_at 39 (by decide +kernel) rfl⟩
abbrev mX10_absorption : Md := (yX10_absorption, cX10_absorption, 4, (some .long), [])
theorem mw_X10_absorption : MwV mX10_absorption 3 := ⟨⟨big_at 948 (by decide +kernel) rfl, big_at 46 (by decide +kernel) rfl, ⟨by decide +kernel, by decide +kernel⟩, by decide +kernel⟩, big_at 946 (by decide +kernel) rfl, big_at 947 (by decide +kernel) rfl⟩
abbrev mX10_requireAbsorbingWay : Md := (yX10_requireAbsorbingWay, cX10_requireAbsorbingWay, 2, none, [])
theorem mw_X10_requireAbsorbingWay : MwV mX10_requireAbsorbingWay 1 := ⟨⟨big_at 954 (by decide +kernel) rfl, big_at 46 (by decide +kernel) rfl, ⟨by decide +kernel, by decide +kernel⟩, by decide +kernel⟩, big_at 953 (by decide +kernel) rfl, big_at 40 (by decide +kernel) rfl⟩
abbrev mX10_findAbsorption : Md := (yX10_findAbsorption, cX10_findAbsorption, 4, none, [])
theorem mw_X10_findAbsorption : MwV mX10_findAbsorption 2 := ⟨⟨big_at 960 (by decide +kernel) rfl, big_at 46 (by decide +kernel) rfl, ⟨by decide +kernel, by decide +kernel⟩, by decide +kernel⟩, big_at 959 (by decide +kernel) rfl, big_at 41 (by decide +kernel) rfl⟩
abbrev mL_treesOf : Md := (yL_treesOf, cL_treesOf, 10, (some .long), [])
theorem mw_L_treesOf : MwV mL_treesOf 3 := ⟨⟨big_at 966 (by decide +kernel) rfl, big_at 45 (by decide +kernel) rfl, ⟨by decide +kernel, by decide +kernel⟩, by decide +kernel⟩, big_at 965 (by decide +kernel) rfl, big_at 42 (by decide +kernel) rfl⟩
abbrev mL_areWalks : Md := (yL_areWalks, cL_areWalks, 18, (some .boolean), [])
theorem mw_L_areWalks : MwV mL_areWalks 4 := ⟨⟨big_at 972 (by decide +kernel) rfl, big_at 45 (by decide +kernel) rfl, ⟨by decide +kernel, by decide +kernel⟩, by decide +kernel⟩, big_at 971 (by decide +kernel) rfl, big_at 43 (by decide +kernel) rfl⟩
abbrev mX10_walk : Md := (yX10_walk, cX10_walk, 5, (some .int), [])
theorem mw_X10_walk : MwV mX10_walk 4 := ⟨⟨big_at 979 (by decide +kernel) rfl, big_at 46 (by decide +kernel) rfl, ⟨by decide +kernel, by decide +kernel⟩, by decide +kernel⟩, big_at 977 (by decide +kernel) rfl, big_at 978 (by decide +kernel) rfl⟩
abbrev mX8_go : Md := (yX8_go, cX8_go, 8, none, [])
theorem mw_X8_go : MwV mX8_go 5 := ⟨⟨big_at 986 (by decide +kernel) rfl, big_at 55 (by decide +kernel) rfl, ⟨by decide +kernel, by decide +kernel⟩, by decide +kernel⟩, big_at 984 (by decide +kernel) rfl, big_at 985 (by decide +kernel) rfl⟩
abbrev mX8_drawStep : Md := (yX8_drawStep, cX8_drawStep, 8, (some .int), [])
theorem mw_X8_drawStep : MwV mX8_drawStep 1 := ⟨⟨big_at 991 (by decide +kernel) rfl, big_at 55 (by decide +kernel) rfl, ⟨by decide +kernel, by decide +kernel⟩, by decide +kernel⟩, big_at 990 (by decide +kernel) rfl, big_at 44 (by decide +kernel) rfl⟩
abbrev mX8_told : Md := (yX8_told, cX8_told, 2, (some .int), [])
theorem mw_X8_told : MwV mX8_told 1 := ⟨⟨big_at 1002 (by decide +kernel) rfl, big_at 55 (by decide +kernel) rfl, ⟨by decide +kernel, by decide +kernel⟩, by decide +kernel⟩, big_at 1000 (by decide +kernel) rfl, big_at 1001 (by decide +kernel) rfl⟩
abbrev mJ9_abs_0f7a4 : Md := (yJ9_abs_0f7a4, cJ9_abs_0f7a4, 1, (some .int), [])
theorem mw_J9_abs_0f7a4 : MwS mJ9_abs_0f7a4 1 := ⟨⟨big_at 1005 (by decide +kernel) rfl, big_at 62 (by decide +kernel) rfl, ⟨by decide +kernel, by decide +kernel⟩, by decide +kernel⟩, big_at 1004 (by decide +kernel) rfl⟩
abbrev mJ4_init_da8c8 : Md := (yJ4_init_da8c8, cJ4_init_da8c8, 1, none, [])
theorem mw_J4_init_da8c8 : MwI mJ4_init_da8c8 0 := ⟨⟨big_at 1012 (by decide +kernel) rfl, big_at 58 (by decide +kernel) rfl, ⟨by decide +kernel, by decide +kernel⟩, by decide +kernel⟩, rfl, big_at 1011 (by decide +kernel) rfl⟩
abbrev mJ5_init_d00df : Md := (yJ5_init_d00df, cJ5_init_d00df, 2, none, [])
theorem mw_J5_init_d00df : MwI mJ5_init_d00df 1 := ⟨⟨big_at 1015 (by decide +kernel) rfl, big_at 57 (by decide +kernel) rfl, ⟨by decide +kernel, by decide +kernel⟩, by decide +kernel⟩, rfl, big_at 1014 (by decide +kernel) rfl⟩
abbrev mJ2_newBytesFor_77867 : Md := (yJ2_newBytesFor_77867, cJ2_newBytesFor_77867, 1, (some (.array .byte)), [])
theorem mw_J2_newBytesFor_77867 : MwS mJ2_newBytesFor_77867 1 := ⟨⟨big_at 1020 (by decide +kernel) rfl, big_at 60 (by decide +kernel) rfl, ⟨by decide +kernel, by decide +kernel⟩, by decide +kernel⟩, big_at 1019 (by decide +kernel) rfl⟩
abbrev mJ2_newBytesLength_0f7a4 : Md := (yJ2_newBytesLength_0f7a4, cJ2_newBytesLength_0f7a4, 1, (some .int), [])
theorem mw_J2_newBytesLength_0f7a4 : MwS mJ2_newBytesLength_0f7a4 1 := ⟨⟨big_at 1023 (by decide +kernel) rfl, big_at 60 (by decide +kernel) rfl, ⟨by decide +kernel, by decide +kernel⟩, by decide +kernel⟩, big_at 1022 (by decide +kernel) rfl⟩
abbrev mJ4_init_a7421 : Md := (yJ4_init_a7421, cJ4_init_a7421, 2, none, [])
theorem mw_J4_init_a7421 : MwI mJ4_init_a7421 1 := ⟨⟨big_at 1040 (by decide +kernel) rfl, big_at 58 (by decide +kernel) rfl, ⟨by decide +kernel, by decide +kernel⟩, by decide +kernel⟩, rfl, big_at 1039 (by decide +kernel) rfl⟩
abbrev mJ5_init_a7421 : Md := (yJ5_init_a7421, cJ5_init_a7421, 5, none, [])
theorem mw_J5_init_a7421 : MwI mJ5_init_a7421 1 := ⟨⟨big_at 1043 (by decide +kernel) rfl, big_at 57 (by decide +kernel) rfl, ⟨by decide +kernel, by decide +kernel⟩, by decide +kernel⟩, rfl, big_at 1042 (by decide +kernel) rfl⟩
abbrev mJ4_append_cf1ce : Md := (yJ4_append_cf1ce, cJ4_append_cf1ce, 2, (some (.object "java/lang/AbstractStringBuilder")), [])
theorem mw_J4_append_cf1ce : MwB mJ4_append_cf1ce 1 := ⟨big_at 1053 (by decide +kernel) rfl, big_at 58 (by decide +kernel) rfl, ⟨by decide +kernel, by decide +kernel⟩, by decide +kernel⟩
theorem ii_J4_append_cf1ce : Cond.instanceMethod yJ4_append_cf1ce ∈ big := big_at 1052 (by decide +kernel) rfl
abbrev mJ4_append_15ec4 : Md := (yJ4_append_15ec4, cJ4_append_15ec4, 2, (some (.object "java/lang/StringBuilder")), [])
theorem mw_J4_append_15ec4 : MwV mJ4_append_15ec4 1 := ⟨⟨big_at 1057 (by decide +kernel) rfl, big_at 58 (by decide +kernel) rfl, ⟨by decide +kernel, by decide +kernel⟩, by decide +kernel⟩, big_at 1055 (by decide +kernel) rfl, big_at 1056 (by decide +kernel) rfl⟩
abbrev mJ5_append_cf1ce : Md := (yJ5_append_cf1ce, cJ5_append_cf1ce, 3, (some (.object "java/lang/AbstractStringBuilder")), [])
theorem mw_J5_append_cf1ce : MwB mJ5_append_cf1ce 1 := ⟨big_at 1059 (by decide +kernel) rfl, big_at 57 (by decide +kernel) rfl, ⟨by decide +kernel, by decide +kernel⟩, by decide +kernel⟩
theorem ii_J5_append_cf1ce : Cond.instanceMethod yJ5_append_cf1ce ∈ big := big_at 1049 (by decide +kernel) rfl
theorem sm_J5_append_cf1ce : Cond.sameMethod RJ5 RJ5 "append" "(Ljava/lang/String;)Ljava/lang/AbstractStringBuilder;" ∈ big := big_at 1050 (by decide +kernel) rfl
abbrev mJ5_appendNull_278bc : Md := (yJ5_appendNull_278bc, cJ5_appendNull_278bc, 3, (some (.object "java/lang/AbstractStringBuilder")), [])
theorem mw_J5_appendNull_278bc : MwB mJ5_appendNull_278bc 0 := ⟨big_at 1063 (by decide +kernel) rfl, big_at 57 (by decide +kernel) rfl, ⟨by decide +kernel, by decide +kernel⟩, by decide +kernel⟩
theorem ii_J5_appendNull_278bc : Cond.instanceMethod yJ5_appendNull_278bc ∈ big := big_at 1062 (by decide +kernel) rfl
theorem sm_J5_appendNull_278bc : Cond.sameMethod RJ5 RJ5 "appendNull" "()Ljava/lang/AbstractStringBuilder;" ∈ big := big_at 1246 (by decide +kernel) rfl
abbrev mJ5_ensureCapacityInternal_d00df : Md := (yJ5_ensureCapacityInternal_d00df, cJ5_ensureCapacityInternal_d00df, 3, none, [])
theorem mw_J5_ensureCapacityInternal_d00df : MwB mJ5_ensureCapacityInternal_d00df 1 := ⟨big_at 1067 (by decide +kernel) rfl, big_at 57 (by decide +kernel) rfl, ⟨by decide +kernel, by decide +kernel⟩, by decide +kernel⟩
theorem ii_J5_ensureCapacityInternal_d00df : Cond.instanceMethod yJ5_ensureCapacityInternal_d00df ∈ big := big_at 1066 (by decide +kernel) rfl
theorem sm_J5_ensureCapacityInternal_d00df : Cond.sameMethod RJ5 RJ5 "ensureCapacityInternal" "(I)V" ∈ big := big_at 1247 (by decide +kernel) rfl
abbrev mJ5_newCapacity_0f7a4 : Md := (yJ5_newCapacity_0f7a4, cJ5_newCapacity_0f7a4, 6, (some .int), [])
theorem mw_J5_newCapacity_0f7a4 : MwB mJ5_newCapacity_0f7a4 1 := ⟨big_at 1071 (by decide +kernel) rfl, big_at 57 (by decide +kernel) rfl, ⟨by decide +kernel, by decide +kernel⟩, by decide +kernel⟩
theorem ii_J5_newCapacity_0f7a4 : Cond.instanceMethod yJ5_newCapacity_0f7a4 ∈ big := big_at 1070 (by decide +kernel) rfl
theorem sm_J5_newCapacity_0f7a4 : Cond.sameMethod RJ5 RJ5 "newCapacity" "(I)I" ∈ big := big_at 1248 (by decide +kernel) rfl
abbrev mJ8_newLength_cabcc : Md := (yJ8_newLength_cabcc, cJ8_newLength_cabcc, 4, (some .int), [])
theorem mw_J8_newLength_cabcc : MwS mJ8_newLength_cabcc 3 := ⟨⟨big_at 1074 (by decide +kernel) rfl, big_at 61 (by decide +kernel) rfl, ⟨by decide +kernel, by decide +kernel⟩, by decide +kernel⟩, big_at 1073 (by decide +kernel) rfl⟩
abbrev mJ8_hugeLength_7cf53 : Md := (yJ8_hugeLength_7cf53, cJ8_hugeLength_7cf53, 3, (some .int), [])
theorem mw_J8_hugeLength_7cf53 : MwS mJ8_hugeLength_7cf53 2 := ⟨⟨big_at 1079 (by decide +kernel) rfl, big_at 61 (by decide +kernel) rfl, ⟨by decide +kernel, by decide +kernel⟩, by decide +kernel⟩, big_at 1078 (by decide +kernel) rfl⟩
abbrev mJ7_copyOf_9075b : Md := (yJ7_copyOf_9075b, cJ7_copyOf_9075b, 3, (some (.array .byte)), [])
theorem mw_J7_copyOf_9075b : MwS mJ7_copyOf_9075b 2 := ⟨⟨big_at 1082 (by decide +kernel) rfl, big_at 63 (by decide +kernel) rfl, ⟨by decide +kernel, by decide +kernel⟩, by decide +kernel⟩, big_at 1081 (by decide +kernel) rfl⟩
abbrev mJ5_isLatin1_aae02 : Md := (yJ5_isLatin1_aae02, cJ5_isLatin1_aae02, 1, (some .boolean), [])
theorem mw_J5_isLatin1_aae02 : MwB mJ5_isLatin1_aae02 0 := ⟨big_at 1092 (by decide +kernel) rfl, big_at 57 (by decide +kernel) rfl, ⟨by decide +kernel, by decide +kernel⟩, by decide +kernel⟩
theorem ii_J5_isLatin1_aae02 : Cond.instanceMethod yJ5_isLatin1_aae02 ∈ big := big_at 1089 (by decide +kernel) rfl
theorem sm_J5_isLatin1_aae02 : Cond.sameMethod RJ5 RJ5 "isLatin1" "()Z" ∈ big := big_at 1090 (by decide +kernel) rfl
abbrev mJ2_putCharsAt_cd4e5 : Md := (yJ2_putCharsAt_cd4e5, cJ2_putCharsAt_cd4e5, 7, (some .int), [])
theorem mw_J2_putCharsAt_cd4e5 : MwS mJ2_putCharsAt_cd4e5 6 := ⟨⟨big_at 1095 (by decide +kernel) rfl, big_at 60 (by decide +kernel) rfl, ⟨by decide +kernel, by decide +kernel⟩, by decide +kernel⟩, big_at 1094 (by decide +kernel) rfl⟩
abbrev mJ2_checkBoundsBeginEnd_d044e : Md := (yJ2_checkBoundsBeginEnd_d044e, cJ2_checkBoundsBeginEnd_d044e, 3, none, [])
theorem mw_J2_checkBoundsBeginEnd_d044e : MwS mJ2_checkBoundsBeginEnd_d044e 3 := ⟨⟨big_at 1098 (by decide +kernel) rfl, big_at 60 (by decide +kernel) rfl, ⟨by decide +kernel, by decide +kernel⟩, by decide +kernel⟩, big_at 1097 (by decide +kernel) rfl⟩
abbrev mJ0_checkBoundsBeginEnd_23922 : Md := (yJ0_checkBoundsBeginEnd_23922, cJ0_checkBoundsBeginEnd_23922, 3, none, [])
theorem mw_J0_checkBoundsBeginEnd_23922 : MwS mJ0_checkBoundsBeginEnd_23922 3 := ⟨⟨big_at 1101 (by decide +kernel) rfl, big_at 59 (by decide +kernel) rfl, ⟨by decide +kernel, by decide +kernel⟩, by decide +kernel⟩, big_at 1100 (by decide +kernel) rfl⟩
abbrev mJ3_checkFromToIndex_8c36e : Md := (yJ3_checkFromToIndex_8c36e, cJ3_checkFromToIndex_8c36e, 4, (some .int), [])
theorem mw_J3_checkFromToIndex_8c36e : MwS mJ3_checkFromToIndex_8c36e 4 := ⟨⟨big_at 1104 (by decide +kernel) rfl, big_at 65 (by decide +kernel) rfl, ⟨by decide +kernel, by decide +kernel⟩, by decide +kernel⟩, big_at 1103 (by decide +kernel) rfl⟩
abbrev mJ2_putChar_b72d1 : Md := (yJ2_putChar_b72d1, cJ2_putChar_b72d1, 3, none, [])
theorem mw_J2_putChar_b72d1 : MwS mJ2_putChar_b72d1 3 := ⟨⟨big_at 1107 (by decide +kernel) rfl, big_at 60 (by decide +kernel) rfl, ⟨by decide +kernel, by decide +kernel⟩, by decide +kernel⟩, big_at 1106 (by decide +kernel) rfl⟩
abbrev mJ5_putStringAt_47b60 : Md := (yJ5_putStringAt_47b60, cJ5_putStringAt_47b60, 3, none, [])
theorem mw_J5_putStringAt_47b60 : MwB mJ5_putStringAt_47b60 2 := ⟨big_at 1111 (by decide +kernel) rfl, big_at 57 (by decide +kernel) rfl, ⟨by decide +kernel, by decide +kernel⟩, by decide +kernel⟩
theorem ii_J5_putStringAt_47b60 : Cond.instanceMethod yJ5_putStringAt_47b60 ∈ big := big_at 1110 (by decide +kernel) rfl
theorem sm_J5_putStringAt_47b60 : Cond.sameMethod RJ5 RJ5 "putStringAt" "(ILjava/lang/String;)V" ∈ big := big_at 1249 (by decide +kernel) rfl
abbrev mJ5_inflateIfNeededFor_a7421 : Md := (yJ5_inflateIfNeededFor_a7421, cJ5_inflateIfNeededFor_a7421, 2, none, [])
theorem mw_J5_inflateIfNeededFor_a7421 : MwB mJ5_inflateIfNeededFor_a7421 1 := ⟨big_at 1115 (by decide +kernel) rfl, big_at 57 (by decide +kernel) rfl, ⟨by decide +kernel, by decide +kernel⟩, by decide +kernel⟩
theorem ii_J5_inflateIfNeededFor_a7421 : Cond.instanceMethod yJ5_inflateIfNeededFor_a7421 ∈ big := big_at 1114 (by decide +kernel) rfl
theorem sm_J5_inflateIfNeededFor_a7421 : Cond.sameMethod RJ5 RJ5 "inflateIfNeededFor" "(Ljava/lang/String;)V" ∈ big := big_at 1250 (by decide +kernel) rfl
abbrev mJ5_inflate_da8c8 : Md := (yJ5_inflate_da8c8, cJ5_inflate_da8c8, 2, none, [])
theorem mw_J5_inflate_da8c8 : MwB mJ5_inflate_da8c8 0 := ⟨big_at 1119 (by decide +kernel) rfl, big_at 57 (by decide +kernel) rfl, ⟨by decide +kernel, by decide +kernel⟩, by decide +kernel⟩
theorem ii_J5_inflate_da8c8 : Cond.instanceMethod yJ5_inflate_da8c8 ∈ big := big_at 1118 (by decide +kernel) rfl
theorem sm_J5_inflate_da8c8 : Cond.sameMethod RJ5 RJ5 "inflate" "()V" ∈ big := big_at 1251 (by decide +kernel) rfl
abbrev mJ1_inflate_0e8fd : Md := (yJ1_inflate_0e8fd, cJ1_inflate_0e8fd, 5, none, [])
theorem mw_J1_inflate_0e8fd : MwS mJ1_inflate_0e8fd 5 := ⟨⟨big_at 1122 (by decide +kernel) rfl, big_at 66 (by decide +kernel) rfl, ⟨by decide +kernel, by decide +kernel⟩, by decide +kernel⟩, big_at 1121 (by decide +kernel) rfl⟩
abbrev mJ2_inflate_0e8fd : Md := (yJ2_inflate_0e8fd, cJ2_inflate_0e8fd, 6, none, [])
theorem mw_J2_inflate_0e8fd : MwS mJ2_inflate_0e8fd 5 := ⟨⟨big_at 1125 (by decide +kernel) rfl, big_at 60 (by decide +kernel) rfl, ⟨by decide +kernel, by decide +kernel⟩, by decide +kernel⟩, big_at 1124 (by decide +kernel) rfl⟩
abbrev mJ2_checkBoundsOffCount_d044e : Md := (yJ2_checkBoundsOffCount_d044e, cJ2_checkBoundsOffCount_d044e, 3, none, [])
theorem mw_J2_checkBoundsOffCount_d044e : MwS mJ2_checkBoundsOffCount_d044e 3 := ⟨⟨big_at 1128 (by decide +kernel) rfl, big_at 60 (by decide +kernel) rfl, ⟨by decide +kernel, by decide +kernel⟩, by decide +kernel⟩, big_at 1127 (by decide +kernel) rfl⟩
abbrev mJ0_checkBoundsOffCount_cabcc : Md := (yJ0_checkBoundsOffCount_cabcc, cJ0_checkBoundsOffCount_cabcc, 3, (some .int), [])
theorem mw_J0_checkBoundsOffCount_cabcc : MwS mJ0_checkBoundsOffCount_cabcc 3 := ⟨⟨big_at 1131 (by decide +kernel) rfl, big_at 59 (by decide +kernel) rfl, ⟨by decide +kernel, by decide +kernel⟩, by decide +kernel⟩, big_at 1130 (by decide +kernel) rfl⟩
abbrev mJ3_checkFromIndexSize_8c36e : Md := (yJ3_checkFromIndexSize_8c36e, cJ3_checkFromIndexSize_8c36e, 4, (some .int), [])
theorem mw_J3_checkFromIndexSize_8c36e : MwS mJ3_checkFromIndexSize_8c36e 4 := ⟨⟨big_at 1134 (by decide +kernel) rfl, big_at 65 (by decide +kernel) rfl, ⟨by decide +kernel, by decide +kernel⟩, by decide +kernel⟩, big_at 1133 (by decide +kernel) rfl⟩
abbrev mJ0_getBytes_840e7 : Md := (yJ0_getBytes_840e7, cJ0_getBytes_840e7, 4, none, [])
theorem mw_J0_getBytes_840e7 : MwV mJ0_getBytes_840e7 3 := ⟨⟨big_at 1138 (by decide +kernel) rfl, big_at 59 (by decide +kernel) rfl, ⟨by decide +kernel, by decide +kernel⟩, by decide +kernel⟩, big_at 1136 (by decide +kernel) rfl, big_at 1137 (by decide +kernel) rfl⟩
abbrev mJ4_append_cf468 : Md := (yJ4_append_cf468, cJ4_append_cf468, 2, (some (.object "java/lang/StringBuilder")), [])
theorem mw_J4_append_cf468 : MwV mJ4_append_cf468 1 := ⟨⟨big_at 1145 (by decide +kernel) rfl, big_at 58 (by decide +kernel) rfl, ⟨by decide +kernel, by decide +kernel⟩, by decide +kernel⟩, big_at 1143 (by decide +kernel) rfl, big_at 1144 (by decide +kernel) rfl⟩
abbrev mJ5_append_3fe6f : Md := (yJ5_append_3fe6f, cJ5_append_3fe6f, 2, (some (.object "java/lang/AbstractStringBuilder")), [])
theorem mw_J5_append_3fe6f : MwB mJ5_append_3fe6f 1 := ⟨big_at 1148 (by decide +kernel) rfl, big_at 57 (by decide +kernel) rfl, ⟨by decide +kernel, by decide +kernel⟩, by decide +kernel⟩
theorem ii_J5_append_3fe6f : Cond.instanceMethod yJ5_append_3fe6f ∈ big := big_at 1147 (by decide +kernel) rfl
theorem sm_J5_append_3fe6f : Cond.sameMethod RJ5 RJ5 "append" "(C)Ljava/lang/AbstractStringBuilder;" ∈ big := big_at 1252 (by decide +kernel) rfl
abbrev mJ1_canEncode_fc78d : Md := (yJ1_canEncode_fc78d, cJ1_canEncode_fc78d, 1, (some .boolean), [])
theorem mw_J1_canEncode_fc78d : MwS mJ1_canEncode_fc78d 1 := ⟨⟨big_at 1151 (by decide +kernel) rfl, big_at 66 (by decide +kernel) rfl, ⟨by decide +kernel, by decide +kernel⟩, by decide +kernel⟩, big_at 1150 (by decide +kernel) rfl⟩
abbrev mJ2_putCharSB_b72d1 : Md := (yJ2_putCharSB_b72d1, cJ2_putCharSB_b72d1, 3, none, [])
theorem mw_J2_putCharSB_b72d1 : MwS mJ2_putCharSB_b72d1 3 := ⟨⟨big_at 1154 (by decide +kernel) rfl, big_at 60 (by decide +kernel) rfl, ⟨by decide +kernel, by decide +kernel⟩, by decide +kernel⟩, big_at 1153 (by decide +kernel) rfl⟩
abbrev mJ4_append_bf812 : Md := (yJ4_append_bf812, cJ4_append_bf812, 2, (some (.object "java/lang/StringBuilder")), [])
theorem mw_J4_append_bf812 : MwV mJ4_append_bf812 1 := ⟨⟨big_at 1158 (by decide +kernel) rfl, big_at 58 (by decide +kernel) rfl, ⟨by decide +kernel, by decide +kernel⟩, by decide +kernel⟩, big_at 1156 (by decide +kernel) rfl, big_at 1157 (by decide +kernel) rfl⟩
abbrev mJ5_append_c97b9 : Md := (yJ5_append_c97b9, cJ5_append_c97b9, 4, (some (.object "java/lang/AbstractStringBuilder")), [])
theorem mw_J5_append_c97b9 : MwB mJ5_append_c97b9 1 := ⟨big_at 1161 (by decide +kernel) rfl, big_at 57 (by decide +kernel) rfl, ⟨by decide +kernel, by decide +kernel⟩, by decide +kernel⟩
theorem ii_J5_append_c97b9 : Cond.instanceMethod yJ5_append_c97b9 ∈ big := big_at 1160 (by decide +kernel) rfl
theorem sm_J5_append_c97b9 : Cond.sameMethod RJ5 RJ5 "append" "(I)Ljava/lang/AbstractStringBuilder;" ∈ big := big_at 1253 (by decide +kernel) rfl
abbrev mJ6_stringSize_0f7a4 : Md := (yJ6_stringSize_0f7a4, cJ6_stringSize_0f7a4, 4, (some .int), [])
theorem mw_J6_stringSize_0f7a4 : MwS mJ6_stringSize_0f7a4 1 := ⟨⟨big_at 1164 (by decide +kernel) rfl, big_at 68 (by decide +kernel) rfl, ⟨by decide +kernel, by decide +kernel⟩, by decide +kernel⟩, big_at 1163 (by decide +kernel) rfl⟩
abbrev mJ6_getChars_ba4f3 : Md := (yJ6_getChars_ba4f3, cJ6_getChars_ba4f3, 7, (some .int), [])
theorem mw_J6_getChars_ba4f3 : MwS mJ6_getChars_ba4f3 3 := ⟨⟨big_at 1167 (by decide +kernel) rfl, big_at 68 (by decide +kernel) rfl, ⟨by decide +kernel, by decide +kernel⟩, by decide +kernel⟩, big_at 1166 (by decide +kernel) rfl⟩
abbrev mJ2_getChars_46870 : Md := (yJ2_getChars_46870, cJ2_getChars_46870, 5, (some .int), [])
theorem mw_J2_getChars_46870 : MwS mJ2_getChars_46870 4 := ⟨⟨big_at 1174 (by decide +kernel) rfl, big_at 60 (by decide +kernel) rfl, ⟨by decide +kernel, by decide +kernel⟩, by decide +kernel⟩, big_at 1173 (by decide +kernel) rfl⟩
abbrev mJ2_getChars_ba4f3 : Md := (yJ2_getChars_ba4f3, cJ2_getChars_ba4f3, 7, (some .int), [])
theorem mw_J2_getChars_ba4f3 : MwS mJ2_getChars_ba4f3 3 := ⟨⟨big_at 1177 (by decide +kernel) rfl, big_at 60 (by decide +kernel) rfl, ⟨by decide +kernel, by decide +kernel⟩, by decide +kernel⟩, big_at 1176 (by decide +kernel) rfl⟩
abbrev mJ4_toString_0e30d : Md := (yJ4_toString_0e30d, cJ4_toString_0e30d, 1, (some (.object "java/lang/String")), [])
theorem mw_J4_toString_0e30d : MwV mJ4_toString_0e30d 0 := ⟨⟨big_at 1183 (by decide +kernel) rfl, big_at 58 (by decide +kernel) rfl, ⟨by decide +kernel, by decide +kernel⟩, by decide +kernel⟩, big_at 1181 (by decide +kernel) rfl, big_at 1182 (by decide +kernel) rfl⟩
abbrev mJ0_init_81219 : Md := (yJ0_init_81219, cJ0_init_81219, 2, none, [])
theorem mw_J0_init_81219 : MwI mJ0_init_81219 1 := ⟨⟨big_at 1188 (by decide +kernel) rfl, big_at 59 (by decide +kernel) rfl, ⟨by decide +kernel, by decide +kernel⟩, by decide +kernel⟩, rfl, big_at 1187 (by decide +kernel) rfl⟩
abbrev mJ0_init_db425 : Md := (yJ0_init_db425, cJ0_init_db425, 5, none, [])
theorem mw_J0_init_db425 : MwI mJ0_init_db425 2 := ⟨⟨big_at 1191 (by decide +kernel) rfl, big_at 59 (by decide +kernel) rfl, ⟨by decide +kernel, by decide +kernel⟩, by decide +kernel⟩, rfl, big_at 1190 (by decide +kernel) rfl⟩
abbrev mJ5_getValue_6d5f1 : Md := (yJ5_getValue_6d5f1, cJ5_getValue_6d5f1, 1, (some (.array .byte)), [])
theorem mw_J5_getValue_6d5f1 : MwB mJ5_getValue_6d5f1 0 := ⟨big_at 1197 (by decide +kernel) rfl, big_at 57 (by decide +kernel) rfl, ⟨by decide +kernel, by decide +kernel⟩, by decide +kernel⟩
theorem ii_J5_getValue_6d5f1 : Cond.instanceMethod yJ5_getValue_6d5f1 ∈ big := big_at 1194 (by decide +kernel) rfl
theorem sm_J5_getValue_6d5f1 : Cond.sameMethod RJ5 RJ5 "getValue" "()[B" ∈ big := big_at 1195 (by decide +kernel) rfl
abbrev mJ4_length_8abf5 : Md := (yJ4_length_8abf5, cJ4_length_8abf5, 1, (some .int), [])
theorem mw_J4_length_8abf5 : MwB mJ4_length_8abf5 0 := ⟨big_at 1203 (by decide +kernel) rfl, big_at 58 (by decide +kernel) rfl, ⟨by decide +kernel, by decide +kernel⟩, by decide +kernel⟩
theorem ii_J4_length_8abf5 : Cond.instanceMethod yJ4_length_8abf5 ∈ big := big_at 1202 (by decide +kernel) rfl
abbrev mJ5_length_8abf5 : Md := (yJ5_length_8abf5, cJ5_length_8abf5, 1, (some .int), [])
theorem mw_J5_length_8abf5 : MwB mJ5_length_8abf5 0 := ⟨big_at 1205 (by decide +kernel) rfl, big_at 57 (by decide +kernel) rfl, ⟨by decide +kernel, by decide +kernel⟩, by decide +kernel⟩
theorem ii_J5_length_8abf5 : Cond.instanceMethod yJ5_length_8abf5 ∈ big := big_at 1199 (by decide +kernel) rfl
theorem sm_J5_length_8abf5 : Cond.sameMethod RJ5 RJ5 "length" "()I" ∈ big := big_at 1200 (by decide +kernel) rfl
abbrev mJ7_copyOfRange_39247 : Md := (yJ7_copyOfRange_39247, cJ7_copyOfRange_39247, 3, (some (.array .byte)), [])
theorem mw_J7_copyOfRange_39247 : MwS mJ7_copyOfRange_39247 3 := ⟨⟨big_at 1209 (by decide +kernel) rfl, big_at 63 (by decide +kernel) rfl, ⟨by decide +kernel, by decide +kernel⟩, by decide +kernel⟩, big_at 1208 (by decide +kernel) rfl⟩
abbrev mJ7_copyOfRangeByte_39247 : Md := (yJ7_copyOfRangeByte_39247, cJ7_copyOfRangeByte_39247, 5, (some (.array .byte)), [])
theorem mw_J7_copyOfRangeByte_39247 : MwS mJ7_copyOfRangeByte_39247 3 := ⟨⟨big_at 1212 (by decide +kernel) rfl, big_at 63 (by decide +kernel) rfl, ⟨by decide +kernel, by decide +kernel⟩, by decide +kernel⟩, big_at 1211 (by decide +kernel) rfl⟩
abbrev mJ7_checkLength_df160 : Md := (yJ7_checkLength_df160, cJ7_checkLength_df160, 2, none, [])
theorem mw_J7_checkLength_df160 : MwS mJ7_checkLength_df160 2 := ⟨⟨big_at 1215 (by decide +kernel) rfl, big_at 63 (by decide +kernel) rfl, ⟨by decide +kernel, by decide +kernel⟩, by decide +kernel⟩, big_at 1214 (by decide +kernel) rfl⟩
abbrev mJ2_compress_39247 : Md := (yJ2_compress_39247, cJ2_compress_39247, 6, (some (.array .byte)), [])
theorem mw_J2_compress_39247 : MwS mJ2_compress_39247 3 := ⟨⟨big_at 1218 (by decide +kernel) rfl, big_at 60 (by decide +kernel) rfl, ⟨by decide +kernel, by decide +kernel⟩, by decide +kernel⟩, big_at 1217 (by decide +kernel) rfl⟩
abbrev mJ2_compress_5af95 : Md := (yJ2_compress_5af95, cJ2_compress_5af95, 7, (some .int), [])
theorem mw_J2_compress_5af95 : MwS mJ2_compress_5af95 5 := ⟨⟨big_at 1221 (by decide +kernel) rfl, big_at 60 (by decide +kernel) rfl, ⟨by decide +kernel, by decide +kernel⟩, by decide +kernel⟩, big_at 1220 (by decide +kernel) rfl⟩
abbrev mJ2_coderFromArrayLen_85cad : Md := (yJ2_coderFromArrayLen_85cad, cJ2_coderFromArrayLen_85cad, 2, (some .byte), [])
theorem mw_J2_coderFromArrayLen_85cad : MwS mJ2_coderFromArrayLen_85cad 2 := ⟨⟨big_at 1225 (by decide +kernel) rfl, big_at 60 (by decide +kernel) rfl, ⟨by decide +kernel, by decide +kernel⟩, by decide +kernel⟩, big_at 1224 (by decide +kernel) rfl⟩
theorem se_J5_append_cf1ce : Cond.selects RJ4 yJ5_append_cf1ce yJ4_append_cf1ce ∈ big := big_at 1051 (by decide +kernel) rfl
theorem se_J4_append_15ec4 : Cond.selects RJ4 yJ4_append_15ec4 yJ4_append_15ec4 ∈ big := big_at 1056 (by decide +kernel) rfl
theorem se_J5_isLatin1_aae02 : Cond.selects RJ4 yJ5_isLatin1_aae02 yJ5_isLatin1_aae02 ∈ big := big_at 1091 (by decide +kernel) rfl
theorem se_J4_append_cf468 : Cond.selects RJ4 yJ4_append_cf468 yJ4_append_cf468 ∈ big := big_at 1144 (by decide +kernel) rfl
theorem se_J4_append_bf812 : Cond.selects RJ4 yJ4_append_bf812 yJ4_append_bf812 ∈ big := big_at 1157 (by decide +kernel) rfl
theorem se_J4_toString_0e30d : Cond.selects RJ4 yJ4_toString_0e30d yJ4_toString_0e30d ∈ big := big_at 1182 (by decide +kernel) rfl
theorem se_J5_getValue_6d5f1 : Cond.selects RJ4 yJ5_getValue_6d5f1 yJ5_getValue_6d5f1 ∈ big := big_at 1196 (by decide +kernel) rfl
theorem se_J5_length_8abf5 : Cond.selects RJ4 yJ5_length_8abf5 yJ4_length_8abf5 ∈ big := big_at 1201 (by decide +kernel) rfl
theorem se_J5_ensureCapacityInternal_d00df : Cond.selects RJ4 yJ5_ensureCapacityInternal_d00df yJ5_ensureCapacityInternal_d00df ∈ big := big_at 1254 (by decide +kernel) rfl
theorem se_J5_newCapacity_0f7a4 : Cond.selects RJ4 yJ5_newCapacity_0f7a4 yJ5_newCapacity_0f7a4 ∈ big := big_at 1255 (by decide +kernel) rfl
theorem se_J5_putStringAt_47b60 : Cond.selects RJ4 yJ5_putStringAt_47b60 yJ5_putStringAt_47b60 ∈ big := big_at 1256 (by decide +kernel) rfl
theorem se_J5_inflateIfNeededFor_a7421 : Cond.selects RJ4 yJ5_inflateIfNeededFor_a7421 yJ5_inflateIfNeededFor_a7421 ∈ big := big_at 1257 (by decide +kernel) rfl
theorem cl_I_same : Cond.sameMethod "[I" "java/lang/Object" "clone" "()Ljava/lang/Object;" ∈ big := big_at 806 (by decide +kernel) rfl
theorem cl_I_sel : Cond.selects "[I" ⟨"[I", "clone", "()Ljava/lang/Object;"⟩ ⟨"java/lang/Object", "clone", "()Ljava/lang/Object;"⟩ ∈ big := big_at 809 (by decide +kernel) rfl
theorem cl_I_cast : Cond.castable "[I" "java/lang/Cloneable" ∈ lw_tbl := List.mem_of_getElem? (i := 810) (by decide +kernel)
theorem cl_B_same : Cond.sameMethod "[B" "java/lang/Object" "clone" "()Ljava/lang/Object;" ∈ big := big_at 1084 (by decide +kernel) rfl
theorem cl_B_sel : Cond.selects "[B" ⟨"[B", "clone", "()Ljava/lang/Object;"⟩ ⟨"java/lang/Object", "clone", "()Ljava/lang/Object;"⟩ ∈ big := big_at 1085 (by decide +kernel) rfl
theorem cl_B_cast : Cond.castable "[B" "java/lang/Cloneable" ∈ lw_tbl := List.mem_of_getElem? (i := 1086) (by decide +kernel)
theorem cl_nat : Cond.native ⟨"java/lang/Object", "clone", "()Ljava/lang/Object;"⟩ ∈ big := big_at 807 (by decide +kernel) rfl
theorem cl_inst : Cond.instanceMethod ⟨"java/lang/Object", "clone", "()Ljava/lang/Object;"⟩ ∈ big := big_at 808 (by decide +kernel) rfl
theorem su_J4 : Cond.superclass RJ4 RJ5 ∈ big := big_at 1037 (by decide +kernel) rfl
theorem ik_J4 : Cond.instantiable RJ4 4 ∈ big := big_at 1009 (by decide +kernel) rfl
