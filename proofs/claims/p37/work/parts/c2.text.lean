/-! ===== the law: an edge's statement, an absorb statement ===== -/
theorem okE : okTx [101, 100, 103, 101, 32] := okTx_of (by decide) (by decide)
theorem okAb : okTx [97, 98, 115, 111, 114, 98, 32] := okTx_of (by decide) (by decide)
theorem len_app {A B : List Nat} {n : Nat} (h : A.length + B.length ≤ n) : (A ++ B).length ≤ n := by rw [List.length_append]; exact h
theorem lw_text {v : Ev} {h : Hp} {top x n sb a b w cells slots p q : Nat} {c : Int32} {T : List Nat} (B : isSB v h (x + 114) sb T) (ht : x + 114 ≤ top) (hT : T.length ≤ 180) (ha : a < 10) (hb : b < 10) (hw : w < 10) (hpq : (p = a ∧ q = b ∧ c &&& nI 8 = 0) ∨ (p = b ∧ q = a ∧ ¬ c &&& nI 8 = 0)) (hc : cells + 7 ≤ 600086) (hs : slots + 2800 ≤ 7301441)
    (kk : ∀ h' top', isSB v h' (x + 114) sb (T ++ edTx p q w) → x + 114 ≤ top' → (∀ q, q < x + 114 → h' q = h q) → J v mL_law room_1 (lwK v) (z0 v) (cells + 7) (slots + 2800) h' top' 362 (lwL v x n sb a b (some (.int c)) (some (.int (nI w)))) []) :
    J v mL_law room_1 (lwK v) (z0 v) cells slots h top 298 (lwL v x n sb a b (some (.int c)) (some (.int (nI w)))) [] := by
  obtain ⟨_, g0⟩ := B.cell
  refine r_aload (pc := 298) (i := 4) (tL_law.at 175 rfl) rfl ?_
  refine r_ldcS 11 (pc := 300) (tL_law.at 176 rfl) rfl ?_
  refine r_callV (M' := mJ4_append_15ec4) (pc := 302) (tL_law.at 177 rfl) ml_L_118 rfl mw_J4_append_15ec4 ⟨by decide, by decide⟩ (g0) rfl rfl (c_appS B (loS_lit (i := 11) (by decide +kernel) (by decide +kernel)) okE (by show T.length + 5 ≤ 200; omega) ht) rfl rfl (Nat.le_of_ble_eq_true rfl) (by show _ ≤ 600086; omega) (by show _ ≤ 7301441; omega) ?_
  rintro _ h1 t1 ⟨rfl, u1, B1, f1⟩
  obtain ⟨_, g1⟩ := B1.cell
  have fin : ∀ (p q : Nat), p < 10 → q < 10 → J v mL_law room_1 (lwK v) (z0 v) (cells + 1) (slots + 400) h1 t1 320 (lwL v x n sb a b (some (.int c)) (some (.int (nI w)))) [.int (nI p), .ref sb] → True := fun _ _ _ _ _ => trivial
  have l1 : (T ++ [101, 100, 103, 101, 32]).length = T.length + 5 := by rw [List.length_append]; rfl
  have key : p < 10 ∧ q < 10 → (∀ h2 t2 (ce sl : Nat), ce = cells + 3 → sl = slots + 1200 → isSB v h2 (x + 114) sb (T ++ [101, 100, 103, 101, 32] ++ [48 + p] ++ [32]) → x + 114 ≤ t2 → (∀ q, q < x + 114 → h2 q = h q) → J v mL_law room_1 (lwK v) (z0 v) ce sl h2 t2 328 (lwL v x n sb a b (some (.int c)) (some (.int (nI w)))) [.ref sb]) → J v mL_law room_1 (lwK v) (z0 v) (cells + 1) (slots + 400) h1 t1 320 (lwL v x n sb a b (some (.int c)) (some (.int (nI w)))) [.int (nI p), .ref sb] := by
    rintro ⟨hp, hq⟩ k2
    refine r_callV (M' := mJ4_append_bf812) (pc := 320) (tL_law.at 185 rfl) ml_L_121 rfl mw_J4_append_bf812 ⟨by decide, by decide⟩ (g1) rfl rfl (c_appI B1 hp (by omega) (by omega)) rfl rfl (Nat.le_of_ble_eq_true rfl) (by show _ ≤ 600086; omega) (by show _ ≤ 7301441; omega) ?_
    rintro _ h2 t2 ⟨rfl, u2, B2, f2⟩
    obtain ⟨_, g2⟩ := B2.cell
    refine r_bipush (pc := 323) (w := nI 32) (tL_law.at 186 rfl) (by decide) ?_
    refine r_callV (M' := mJ4_append_cf468) (pc := 325) (tL_law.at 187 rfl) ml_L_143 rfl mw_J4_append_cf468 ⟨by decide, by decide⟩ (g2) rfl rfl (c_appC (c := 32) B2 (by omega) (by rw [List.length_append, l1]; show _ + 1 + 1 ≤ 200; omega) (by omega)) rfl rfl (Nat.le_of_ble_eq_true rfl) (by show _ ≤ 600086; omega) (by show _ ≤ 7301441; omega) ?_
    rintro _ h3 t3 ⟨rfl, u3, B3, f3⟩
    exact k2 h3 t3 _ _ rfl rfl B3 (by omega) (fun q hq => (f3 q hq).trans ((f2 q hq).trans (f1 q hq)))
  have key2 : p < 10 ∧ q < 10 → ∀ h2 t2, isSB v h2 (x + 114) sb (T ++ [101, 100, 103, 101, 32] ++ [48 + p] ++ [32]) → x + 114 ≤ t2 → (∀ q, q < x + 114 → h2 q = h q) → J v mL_law room_1 (lwK v) (z0 v) (cells + 3) (slots + 1200) h2 t2 343 (lwL v x n sb a b (some (.int c)) (some (.int (nI w)))) [.int (nI q), .ref sb] := by
    rintro ⟨hp, hq⟩ h2 t2 B2 hx2 f2
    have l2 : (T ++ [101, 100, 103, 101, 32] ++ [48 + p] ++ [32]).length = T.length + 7 := by rw [List.length_append, List.length_append, l1]; rfl
    obtain ⟨_, g2⟩ := B2.cell
    refine r_callV (M' := mJ4_append_bf812) (pc := 343) (tL_law.at 195 rfl) ml_L_121 rfl mw_J4_append_bf812 ⟨by decide, by decide⟩ (g2) rfl rfl (c_appI B2 hq (by omega) (by omega)) rfl rfl (Nat.le_of_ble_eq_true rfl) (by show _ ≤ 600086; omega) (by show _ ≤ 7301441; omega) ?_
    rintro _ h3 t3 ⟨rfl, u3, B3, f3⟩
    obtain ⟨_, g3⟩ := B3.cell
    have l3 : (T ++ [101, 100, 103, 101, 32] ++ [48 + p] ++ [32] ++ [48 + q]).length = T.length + 8 := by rw [List.length_append, l2]; rfl
    refine r_bipush (pc := 346) (w := nI 32) (tL_law.at 196 rfl) (by decide) ?_
    refine r_callV (M' := mJ4_append_cf468) (pc := 348) (tL_law.at 197 rfl) ml_L_143 rfl mw_J4_append_cf468 ⟨by decide, by decide⟩ (g3) rfl rfl (c_appC (c := 32) B3 (by omega) (by omega) (by omega)) rfl rfl (Nat.le_of_ble_eq_true rfl) (by show _ ≤ 600086; omega) (by show _ ≤ 7301441; omega) ?_
    rintro _ h4 t4 ⟨rfl, u4, B4, f4⟩
    obtain ⟨_, g4⟩ := B4.cell
    have l4 : (T ++ [101, 100, 103, 101, 32] ++ [48 + p] ++ [32] ++ [48 + q] ++ [32]).length = T.length + 9 := by rw [List.length_append, l3]; rfl
    refine r_iload (pc := 351) (i := 8) (tL_law.at 198 rfl) rfl ?_
    refine r_callV (M' := mJ4_append_bf812) (pc := 353) (tL_law.at 199 rfl) ml_L_121 rfl mw_J4_append_bf812 ⟨by decide, by decide⟩ (g4) rfl rfl (c_appI B4 hw (by omega) (by omega)) rfl rfl (Nat.le_of_ble_eq_true rfl) (by show _ ≤ 600086; omega) (by show _ ≤ 7301441; omega) ?_
    rintro _ h5 t5 ⟨rfl, u5, B5, f5⟩
    obtain ⟨_, g5⟩ := B5.cell
    have l5 : (T ++ [101, 100, 103, 101, 32] ++ [48 + p] ++ [32] ++ [48 + q] ++ [32] ++ [48 + w]).length = T.length + 10 := by rw [List.length_append, l4]; rfl
    refine r_bipush (pc := 356) (w := nI 59) (tL_law.at 200 rfl) (by decide) ?_
    refine r_callV (M' := mJ4_append_cf468) (pc := 358) (tL_law.at 201 rfl) ml_L_143 rfl mw_J4_append_cf468 ⟨by decide, by decide⟩ (g5) rfl rfl (c_appC (c := 59) B5 (by omega) (by omega) (by omega)) rfl rfl (Nat.le_of_ble_eq_true rfl) (by show _ ≤ 600086; omega) (by show _ ≤ 7301441; omega) ?_
    rintro _ h6 t6 ⟨rfl, u6, B6, f6⟩
    refine r_pop (pc := 361) (tL_law.at 202 rfl) rfl ?_
    refine kk h6 t6 ?_ (by omega) (fun q hq => (f6 q hq).trans ((f5 q hq).trans ((f4 q hq).trans ((f3 q hq).trans (f2 q hq)))))
    have e : T ++ edTx p q w = T ++ [101, 100, 103, 101, 32] ++ [48 + p] ++ [32] ++ [48 + q] ++ [32] ++ [48 + w] ++ [59] := by
      unfold edTx
      simp
    rw [e]
    exact B6
  refine r_iload (pc := 305) (i := 7) (tL_law.at 178 rfl) rfl ?_
  refine r_bipush (pc := 307) (w := nI 8) (tL_law.at 179 rfl) (by decide) ?_
  refine r_iand (pc := 309) (tL_law.at 180 rfl) ?_
  rcases hpq with ⟨rfl, rfl, h8⟩ | ⟨rfl, rfl, h8⟩
  · refine r_if_ne (pc := 310) 318 (tL_law.at 181 rfl) (by decide) (fun z => absurd h8 z) (fun _ => ?_)
    refine r_iload (pc := 313) (i := 5) (tL_law.at 182 rfl) rfl ?_
    refine r_goto (pc := 315) 320 (tL_law.at 183 rfl) (by decide) ?_
    refine key ⟨ha, hb⟩ (fun h2 t2 ce sl e1 e2 B2 hx2 f2 => ?_)
    subst e1
    subst e2
    refine r_iload (pc := 328) (i := 7) (tL_law.at 188 rfl) rfl ?_
    refine r_bipush (pc := 330) (w := nI 8) (tL_law.at 189 rfl) (by decide) ?_
    refine r_iand (pc := 332) (tL_law.at 190 rfl) ?_
    refine r_if_ne (pc := 333) 341 (tL_law.at 191 rfl) (by decide) (fun z => absurd h8 z) (fun _ => ?_)
    refine r_iload (pc := 336) (i := 6) (tL_law.at 192 rfl) rfl ?_
    refine r_goto (pc := 338) 343 (tL_law.at 193 rfl) (by decide) ?_
    exact key2 ⟨ha, hb⟩ h2 t2 B2 hx2 f2
  · refine r_if_ne (pc := 310) 318 (tL_law.at 181 rfl) (by decide) (fun _ => ?_) (fun z => absurd z h8)
    refine r_iload (pc := 318) (i := 6) (tL_law.at 184 rfl) rfl ?_
    refine key ⟨hb, ha⟩ (fun h2 t2 ce sl e1 e2 B2 hx2 f2 => ?_)
    subst e1
    subst e2
    refine r_iload (pc := 328) (i := 7) (tL_law.at 188 rfl) rfl ?_
    refine r_bipush (pc := 330) (w := nI 8) (tL_law.at 189 rfl) (by decide) ?_
    refine r_iand (pc := 332) (tL_law.at 190 rfl) ?_
    refine r_if_ne (pc := 333) 341 (tL_law.at 191 rfl) (by decide) (fun _ => ?_) (fun z => absurd z h8)
    refine r_iload (pc := 341) (i := 5) (tL_law.at 194 rfl) rfl ?_
    exact key2 ⟨hb, ha⟩ h2 t2 B2 hx2 f2

