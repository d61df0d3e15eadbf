/-! ===== the law: one edge of its own graph ===== -/
abbrev lwL (v : Ev) (x n sb a b : Nat) (c w : Option Value) : List (Option Value) := [some (.ref (oA v 98)), some (.ref x), some (.ref (x + 96)), some (.int (nI n)), some (.ref sb), some (.int (nI a)), some (.int (nI b)), c, w]
theorem kz_cost (p q w : Nat) (hw : w < 100) : nI (3 * p) - nI q + nI w / nI 2 = zI (3 * (p : Int) - q + (w / 2 : Nat)) := by
  rw [nI_half hw, nI_subI, ← zI_nat (w / 2), zI_add]
  congr 1
theorem lw_edge {v : Ev} {h : Hp} {top x n sb a b w cells slots : Nat} {c : Int32} {S : LT} (L : isLw v h (x + 96) S) (hab : a < b) (hb : b < 6) (hw : w ≤ 9) (he : S.e ≤ 9) (hD : ∀ u, u < 6 → S.D u ≤ 1000) (hc : cells ≤ 1000) (hs : slots ≤ 1000000)
    (kk : ∀ h', isLw v h' (x + 96) (adL S a b w) → (∀ q, (q < x + 96 ∨ x + 114 ≤ q) → h' q = h q) → J v mL_law room_1 (lwK v) (z0 v) cells slots h' top 298 (lwL v x n sb a b (some (.int c)) (some (.int (nI w)))) []) :
    J v mL_law room_1 (lwK v) (z0 v) cells slots h top 139 (lwL v x n sb a b (some (.int c)) (some (.int (nI w)))) [] := by
  have ha : a < 6 := by omega
  have hDa := hD a ha
  have hDb := hD b hb
  refine r_aload_n (pc := 139) (i := 2) (tL_law.at 77 rfl) rfl rfl ?_
  refine r_get (pc := 140) (tL_law.at 78 rfl) gf_L_9 (L.1) rfl ?_
  refine r_iload (pc := 143) (i := 5) (tL_law.at 79 rfl) rfl ?_
  refine r_aaldQ (pc := 145) (tL_law.at 80 rfl) (L.2.1) (a) rfl (by omega) (Nat.le_of_ble_eq_true rfl) ?_
  rw [rwQ_at (by omega)]
  refine r_iload (pc := 146) (i := 6) (tL_law.at 81 rfl) rfl ?_
  refine r_iload (pc := 148) (i := 8) (tL_law.at 82 rfl) rfl ?_
  refine r_iast (pc := 150) (tL_law.at 83 rfl) (L.2.2.1 a (by omega)) (b) (rfl) (by omega) (by omega) ?_
  have L1 := L.pW (x := w) ha hb
  refine r_aload_n (pc := 151) (i := 2) (tL_law.at 84 rfl) rfl rfl ?_
  refine r_get (pc := 152) (tL_law.at 85 rfl) gf_L_9 (L1.1) rfl ?_
  refine r_iload (pc := 155) (i := 6) (tL_law.at 86 rfl) rfl ?_
  refine r_aaldQ (pc := 157) (tL_law.at 87 rfl) (L1.2.1) (b) rfl (by omega) (Nat.le_of_ble_eq_true rfl) ?_
  rw [rwQ_at (by omega)]
  refine r_iload (pc := 158) (i := 5) (tL_law.at 88 rfl) rfl ?_
  refine r_iload (pc := 160) (i := 8) (tL_law.at 89 rfl) rfl ?_
  refine r_iast (pc := 162) (tL_law.at 90 rfl) (L1.2.2.1 b (by omega)) (a) (rfl) (by omega) (by omega) ?_
  have L2 := L1.pW (x := w) hb ha
  refine r_aload_n (pc := 163) (i := 2) (tL_law.at 91 rfl) rfl rfl ?_
  refine r_get (pc := 164) (tL_law.at 92 rfl) gf_L_17 (L2.1) rfl ?_
  refine r_iload (pc := 167) (i := 5) (tL_law.at 93 rfl) rfl ?_
  first | refine r_dup2_11 (pc := 169) (tL_law.at 94 rfl) rfl rfl ?_ | refine r_dup2_2 (pc := 169) (tL_law.at 94 rfl) rfl ?_
  refine r_iald (pc := 170) (tL_law.at 95 rfl) (L2.2.2.2.2.2.1) (a) (rfl) (by omega) (by omega) ?_
  refine r_iload (pc := 171) (i := 8) (tL_law.at 96 rfl) rfl ?_
  first | refine r_iaddN (pc := 173) (tL_law.at 97 rfl) ?_ | refine r_iadd (pc := 173) (tL_law.at 97 rfl) ?_
  refine r_iast (pc := 174) (tL_law.at 98 rfl) (L2.2.2.2.2.2.1) (a) (rfl) (by omega) (by omega) ?_
  have L3 := L2.pD (u := a) (x := S.D a + w)
  refine r_aload_n (pc := 175) (i := 2) (tL_law.at 99 rfl) rfl rfl ?_
  refine r_get (pc := 176) (tL_law.at 100 rfl) gf_L_17 (L3.1) rfl ?_
  refine r_iload (pc := 179) (i := 6) (tL_law.at 101 rfl) rfl ?_
  first | refine r_dup2_11 (pc := 181) (tL_law.at 102 rfl) rfl rfl ?_ | refine r_dup2_2 (pc := 181) (tL_law.at 102 rfl) rfl ?_
  refine r_iald (pc := 182) (tL_law.at 103 rfl) (L3.2.2.2.2.2.1) (b) (rfl) (by omega) (by omega) ?_
  refine r_iload (pc := 183) (i := 8) (tL_law.at 104 rfl) rfl ?_
  first | refine r_iaddN (pc := 185) (tL_law.at 105 rfl) ?_ | refine r_iadd (pc := 185) (tL_law.at 105 rfl) ?_
  refine r_iast (pc := 186) (tL_law.at 106 rfl) (L3.2.2.2.2.2.1) (b) (rfl) (by omega) (by omega) ?_
  have L4 := L3.pD (u := b) (x := upN S.D a (S.D a + w) b + w)
  refine r_aload_n (pc := 187) (i := 2) (tL_law.at 107 rfl) rfl rfl ?_
  refine r_get (pc := 188) (tL_law.at 108 rfl) gf_L_14 (L4.1) rfl ?_
  refine r_iload (pc := 191) (i := 5) (tL_law.at 109 rfl) rfl ?_
  refine r_aaldQ (pc := 193) (tL_law.at 110 rfl) (L4.2.2.2.1) (a) rfl (by omega) (Nat.le_of_ble_eq_true rfl) ?_
  rw [rwQ_at (by omega)]
  refine r_iload (pc := 194) (i := 6) (tL_law.at 111 rfl) rfl ?_
  refine r_iconst (pc := 196) (w := nI 0) (tL_law.at 112 rfl) (by decide) ?_
  refine r_bipush (pc := 197) (w := nI 99) (tL_law.at 113 rfl) (by decide) ?_
  refine r_iconst (pc := 199) (w := nI 3) (tL_law.at 114 rfl) (by decide) ?_
  refine r_iload (pc := 200) (i := 6) (tL_law.at 115 rfl) rfl ?_
  first | refine r_imulN (pc := 202) (tL_law.at 116 rfl) ?_ | refine r_imul (pc := 202) (tL_law.at 116 rfl) ?_
  refine r_iload (pc := 203) (i := 5) (tL_law.at 117 rfl) rfl ?_
  refine r_isub (pc := 205) (tL_law.at 118 rfl) ?_
  refine r_iload (pc := 206) (i := 8) (tL_law.at 119 rfl) rfl ?_
  refine r_iconst (pc := 208) (w := nI 2) (tL_law.at 120 rfl) (by decide) ?_
  refine r_idiv (pc := 209) (tL_law.at 121 rfl) (by decide) ?_
  refine r_iadd (pc := 210) (tL_law.at 122 rfl) ?_
  refine r_eq rfl (st2 := [.int (zI (3 * (b : Int) - a + (w / 2 : Nat))), .int (zI 99), .int (zI 0), .int (nI b), .ref (x + 96 + 8 + 1 + a)]) (by rw [kz_cost b a w (by omega)]; rfl) ?_
  refine r_mminZ (pc := 211) (tL_law.at 123 rfl) ml_L_133 mw_min_s mw_math mw_min_c (Nat.le_of_ble_eq_true rfl) (Nat.le_of_ble_eq_true rfl) (by show _ ≤ 600086; omega) (by show _ ≤ 7301441; omega) ⟨by omega, by omega⟩ ⟨by omega, by omega⟩ ?_
  refine r_mmaxZ (pc := 214) (tL_law.at 124 rfl) ml_L_138 mw_max_s mw_math mw_max_c (Nat.le_of_ble_eq_true rfl) (Nat.le_of_ble_eq_true rfl) (by show _ ≤ 600086; omega) (by show _ ≤ 7301441; omega) ⟨by omega, by omega⟩ ⟨by omega, by omega⟩ ?_
  rw [kst_z]
  refine r_iast (pc := 217) (tL_law.at 125 rfl) (L4.2.2.2.2.1 a (by omega)) (b) (rfl) (by omega) (by omega) ?_
  have L5 := L4.pC (x := kst a b w) ha hb
  refine r_aload_n (pc := 218) (i := 2) (tL_law.at 126 rfl) rfl rfl ?_
  refine r_get (pc := 219) (tL_law.at 127 rfl) gf_L_14 (L5.1) rfl ?_
  refine r_iload (pc := 222) (i := 6) (tL_law.at 128 rfl) rfl ?_
  refine r_aaldQ (pc := 224) (tL_law.at 129 rfl) (L5.2.2.2.1) (b) rfl (by omega) (Nat.le_of_ble_eq_true rfl) ?_
  rw [rwQ_at (by omega)]
  refine r_iload (pc := 225) (i := 5) (tL_law.at 130 rfl) rfl ?_
  refine r_iconst (pc := 227) (w := nI 0) (tL_law.at 131 rfl) (by decide) ?_
  refine r_bipush (pc := 228) (w := nI 99) (tL_law.at 132 rfl) (by decide) ?_
  refine r_iconst (pc := 230) (w := nI 3) (tL_law.at 133 rfl) (by decide) ?_
  refine r_iload (pc := 231) (i := 5) (tL_law.at 134 rfl) rfl ?_
  first | refine r_imulN (pc := 233) (tL_law.at 135 rfl) ?_ | refine r_imul (pc := 233) (tL_law.at 135 rfl) ?_
  refine r_iload (pc := 234) (i := 6) (tL_law.at 136 rfl) rfl ?_
  refine r_isub (pc := 236) (tL_law.at 137 rfl) ?_
  refine r_iload (pc := 237) (i := 8) (tL_law.at 138 rfl) rfl ?_
  refine r_iconst (pc := 239) (w := nI 2) (tL_law.at 139 rfl) (by decide) ?_
  refine r_idiv (pc := 240) (tL_law.at 140 rfl) (by decide) ?_
  refine r_iadd (pc := 241) (tL_law.at 141 rfl) ?_
  refine r_eq rfl (st2 := [.int (zI (3 * (a : Int) - b + (w / 2 : Nat))), .int (zI 99), .int (zI 0), .int (nI a), .ref (x + 96 + 8 + 1 + b)]) (by rw [kz_cost a b w (by omega)]; rfl) ?_
  refine r_mminZ (pc := 242) (tL_law.at 142 rfl) ml_L_133 mw_min_s mw_math mw_min_c (Nat.le_of_ble_eq_true rfl) (Nat.le_of_ble_eq_true rfl) (by show _ ≤ 600086; omega) (by show _ ≤ 7301441; omega) ⟨by omega, by omega⟩ ⟨by omega, by omega⟩ ?_
  refine r_mmaxZ (pc := 245) (tL_law.at 143 rfl) ml_L_138 mw_max_s mw_math mw_max_c (Nat.le_of_ble_eq_true rfl) (Nat.le_of_ble_eq_true rfl) (by show _ ≤ 600086; omega) (by show _ ≤ 7301441; omega) ⟨by omega, by omega⟩ ⟨by omega, by omega⟩ ?_
  rw [kst_z]
  refine r_iast (pc := 248) (tL_law.at 144 rfl) (L5.2.2.2.2.1 b (by omega)) (a) (rfl) (by omega) (by omega) ?_
  have L6 := L5.pC (x := kst b a w) hb ha
  refine r_aload_n (pc := 249) (i := 2) (tL_law.at 145 rfl) rfl rfl ?_
  refine r_get (pc := 250) (tL_law.at 146 rfl) gf_L_21 (L6.1) rfl ?_
  refine r_iconst (pc := 253) (w := nI 2) (tL_law.at 147 rfl) (by decide) ?_
  refine r_aload_n (pc := 254) (i := 2) (tL_law.at 148 rfl) rfl rfl ?_
  refine r_get (pc := 255) (tL_law.at 149 rfl) gf_L_81 (L6.1) rfl ?_
  first | refine r_imulN (pc := 258) (tL_law.at 150 rfl) ?_ | refine r_imul (pc := 258) (tL_law.at 150 rfl) ?_
  refine r_iload (pc := 259) (i := 5) (tL_law.at 151 rfl) rfl ?_
  refine r_iast (pc := 261) (tL_law.at 152 rfl) (L6.2.2.2.2.2.2.1) (2 * S.e) (rfl) (by omega) (by omega) ?_
  have L7 := L6.pE (u := 2 * S.e) (x := a)
  refine r_aload_n (pc := 262) (i := 2) (tL_law.at 153 rfl) rfl rfl ?_
  refine r_get (pc := 263) (tL_law.at 154 rfl) gf_L_21 (L7.1) rfl ?_
  refine r_iconst (pc := 266) (w := nI 2) (tL_law.at 155 rfl) (by decide) ?_
  refine r_aload_n (pc := 267) (i := 2) (tL_law.at 156 rfl) rfl rfl ?_
  refine r_get (pc := 268) (tL_law.at 157 rfl) gf_L_81 (L7.1) rfl ?_
  first | refine r_imulN (pc := 271) (tL_law.at 158 rfl) ?_ | refine r_imul (pc := 271) (tL_law.at 158 rfl) ?_
  refine r_iconst (pc := 272) (w := nI 1) (tL_law.at 159 rfl) (by decide) ?_
  first | refine r_iaddN (pc := 273) (tL_law.at 160 rfl) ?_ | refine r_iadd (pc := 273) (tL_law.at 160 rfl) ?_
  refine r_iload (pc := 274) (i := 6) (tL_law.at 161 rfl) rfl ?_
  refine r_iast (pc := 276) (tL_law.at 162 rfl) (L7.2.2.2.2.2.2.1) (2 * S.e + 1) (rfl) (by omega) (by omega) ?_
  have L8 := L7.pE (u := 2 * S.e + 1) (x := b)
  refine r_aload_n (pc := 277) (i := 2) (tL_law.at 163 rfl) rfl rfl ?_
  refine r_get (pc := 278) (tL_law.at 164 rfl) gf_L_24 (L8.1) rfl ?_
  refine r_aload_n (pc := 281) (i := 2) (tL_law.at 165 rfl) rfl rfl ?_
  refine r_get (pc := 282) (tL_law.at 166 rfl) gf_L_81 (L8.1) rfl ?_
  refine r_iload (pc := 285) (i := 8) (tL_law.at 167 rfl) rfl ?_
  refine r_iast (pc := 287) (tL_law.at 168 rfl) (L8.2.2.2.2.2.2.2) (S.e) (rfl) (by omega) (by omega) ?_
  have L9 := L8.pT (u := S.e) (x := w)
  refine r_aload_n (pc := 288) (i := 2) (tL_law.at 169 rfl) rfl rfl ?_
  refine r_dup (pc := 289) (tL_law.at 170 rfl) rfl ?_
  refine r_get (pc := 290) (tL_law.at 171 rfl) gf_L_81 (L9.1) rfl ?_
  refine r_iconst (pc := 293) (w := nI 1) (tL_law.at 172 rfl) (by decide) ?_
  first | refine r_iaddN (pc := 294) (tL_law.at 173 rfl) ?_ | refine r_iadd (pc := 294) (tL_law.at 173 rfl) ?_
  refine r_put (pc := 295) (tL_law.at 174 rfl) pf_L_81 L9.1 (Nat.le_of_ble_eq_true rfl) rfl rfl ?_
  have L10 := L9.pH S.n (S.e + 1) S.a
  refine kk _ L10 (fun q hq => ?_)
  rw [hp_ne _ _ (by omega), hp_ne _ _ (by omega), hp_ne _ _ (by omega), hp_ne _ _ (by omega), hp_ne _ _ (by omega), hp_ne _ _ (by omega), hp_ne _ _ (by omega), hp_ne _ _ (by omega), hp_ne _ _ (by omega), hp_ne _ _ (by omega)]

