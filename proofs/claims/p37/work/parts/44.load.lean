/-! ===== append, load ===== -/
theorem TK.adds_1 : ∀ (l : List (Int × Nat × Nat)) (t : TK), (t.adds l).1 = t.1
  | [], _ => rfl
  | k :: l, t => (TK.adds_1 l _).trans rfl
theorem TK.adds_ct : ∀ (l : List (Int × Nat × Nat)) (t : TK), (t.adds l).2.2 = t.2.2 + l.length
  | [], _ => rfl
  | k :: l, t => by
    rw [TK.adds, TK.adds_ct l]
    show t.2.2 + 1 + l.length = t.2.2 + (l.length + 1)
    omega
theorem TK.adds_app : ∀ (l m : List (Int × Nat × Nat)) (t : TK), t.adds (l ++ m) = (t.adds l).adds m
  | [], _, _ => rfl
  | k :: l, m, t => TK.adds_app l m _
/-- the i-th token behind the first ones -/
theorem TK.adds_get : ∀ (l : List (Int × Nat × Nat)) (t : TK) (i : Nat) (k : Int × Nat × Nat), l[i]? = some k → (t.adds l).2.1.1 (t.2.2 + i) = k.1 ∧ (t.adds l).2.1.2.1 (t.2.2 + i) = k.2.1 ∧ (t.adds l).2.1.2.2 (t.2.2 + i) = k.2.2
  | [], t, i, k, h => by simp at h
  | k0 :: l, t, 0, k, h => by
    have key : ∀ (l : List (Int × Nat × Nat)) (t : TK) (j : Nat), j < t.2.2 → (t.adds l).2.1.1 j = t.2.1.1 j ∧ (t.adds l).2.1.2.1 j = t.2.1.2.1 j ∧ (t.adds l).2.1.2.2 j = t.2.1.2.2 j := by
      intro l
      induction l with
      | nil => exact fun t j hj => ⟨rfl, rfl, rfl⟩
      | cons k l ih =>
        intro t j hj
        obtain ⟨h1, h2, h3⟩ := ih (t.add k.1 k.2.1 k.2.2) j (by show j < t.2.2 + 1; omega)
        refine ⟨h1.trans ?_, h2.trans ?_, h3.trans ?_⟩
        · exact upZ_ne _ _ (by omega)
        · exact upN_ne _ _ (by omega)
        · exact upN_ne _ _ (by omega)
    have e : k0 = k := by simpa using h
    subst e
    obtain ⟨h1, h2, h3⟩ := key l (t.add k0.1 k0.2.1 k0.2.2) t.2.2 (by show t.2.2 < t.2.2 + 1; omega)
    refine ⟨h1.trans ?_, h2.trans ?_, h3.trans ?_⟩
    · exact upZ_eq _ _ _
    · exact upN_eq _ _ _
    · exact upN_eq _ _ _
  | k0 :: l, t, i + 1, k, h => by
    have := TK.adds_get l (t.add k0.1 k0.2.1 k0.2.2) i k (by simpa using h)
    rw [show (t.add k0.1 k0.2.1 k0.2.2).2.2 + i = t.2.2 + (i + 1) by show t.2.2 + 1 + i = _; omega] at this
    exact this
def tkB (k : Int × Nat × Nat) : Prop := (-128 ≤ k.1 ∧ k.1 ≤ 266) ∧ k.2.1 ≤ 600 ∧ k.2.2 ≤ 10000
def tkA (t : TK) : Prop := ∀ i, (-128 ≤ t.2.1.1 i ∧ t.2.1.1 i ≤ 266) ∧ t.2.1.2.1 i ≤ 600 ∧ t.2.1.2.2 i ≤ 10000
theorem TK.adds_b : ∀ (l : List (Int × Nat × Nat)) (t : TK), tkA t → (∀ k ∈ l, tkB k) → tkA (t.adds l)
  | [], _, h, _ => h
  | k :: l, t, h, hl => TK.adds_b l _ (fun i => by
      obtain ⟨b1, b2, b3⟩ := hl k List.mem_cons_self
      obtain ⟨h1, h2, h3⟩ := h i
      refine ⟨?_, ?_, ?_⟩
      · show -128 ≤ upZ t.2.1.1 t.2.2 k.1 i ∧ upZ t.2.1.1 t.2.2 k.1 i ≤ 266
        unfold upZ
        split
        · exact b1
        · exact h1
      · show upN t.2.1.2.1 t.2.2 k.2.1 i ≤ 600
        unfold upN
        split
        · exact b2
        · exact h2
      · show upN t.2.1.2.2 t.2.2 k.2.2 i ≤ 10000
        unfold upN
        split
        · exact b3
        · exact h3) (fun k' hk => hl k' (List.mem_cons_of_mem _ hk))
theorem kdW_b (b : Nat → Nat) (s e : Nat) : 258 ≤ kdW b s e ∧ kdW b s e ≤ 266 := by
  unfold kdW
  repeat' split
  all_goals omega
theorem tok_b {b : Nat → Nat} {len a : Nat} (hb : ∀ k, b k < 256) (ha : a < len) (hl : len ≤ 600) : tkB (tok b len a).1 := by
  unfold tok
  split
  · exact ⟨⟨by show (-128 : Int) ≤ 257; omega, by show (257 : Int) ≤ 266; omega⟩, by show a ≤ 600; omega, numA_le _ _ _⟩
  · split
    · have h1 := kdW_b b a (a + ltN b len a)
      exact ⟨⟨by show (-128 : Int) ≤ (kdW b a (a + ltN b len a) : Nat); omega, by show ((kdW b a (a + ltN b len a) : Nat) : Int) ≤ 266; omega⟩, by show a ≤ 600; omega, Nat.zero_le _⟩
    · have h1 := hb a
      exact ⟨⟨by show -128 ≤ sgn (b a); unfold sgn; split <;> omega, by show sgn (b a) ≤ 266; unfold sgn; split <;> omega⟩, by show a ≤ 600; omega, Nat.zero_le _⟩
theorem tks_b {b : Nat → Nat} {len : Nat} (hb : ∀ k, b k < 256) (hl : len ≤ 600) : ∀ f a, (∀ k ∈ tks b len f a, tkB k) ∧ (tks b len f a).length ≤ f
  | 0, a => ⟨fun k hk => by simp [tks] at hk, by simp [tks]⟩
  | f + 1, a => by
    rw [tks]
    split
    · next ha =>
      split
      · obtain ⟨h1, h2⟩ := tks_b hb hl f (a + 1)
        exact ⟨h1, by omega⟩
      · obtain ⟨h1, h2⟩ := tks_b hb hl f (tok b len a).2
        refine ⟨fun k hk => ?_, by rw [List.length_cons]; omega⟩
        rcases List.mem_cons.mp hk with e | e
        · rw [e]
          exact tok_b hb ha hl
        · exact h1 k e
    · exact ⟨fun k hk => by simp at hk, by simp⟩
/-- the tokens of a text, as they lie in the rows -/
def scT (b : Nat → Nat) (hd len : Nat) (t2 : (Nat → Int) × (Nat → Nat) × (Nat → Nat)) : TK := TK.adds ((b, hd), t2, 0) (tks b len 600 0 ++ [(256, len, 0)])
theorem scT_ok {b : Nat → Nat} {hd len : Nat} {t2 : (Nat → Int) × (Nat → Nat) × (Nat → Nat)} (hb : ∀ k, b k < 256) (hl : len ≤ 600) (ht : tkA ((b, hd), t2, 0)) : okT (scT b hd len t2) ∧ endT (scT b hd len t2) ∧ (scT b hd len t2).1 = (b, hd) := by
  obtain ⟨h1, h2⟩ := tks_b hb hl 600 0
  have hc : (scT b hd len t2).2.2 = (tks b len 600 0).length + 1 := by
    unfold scT
    rw [TK.adds_ct, List.length_append]
    show 0 + ((tks b len 600 0).length + 1) = _
    omega
  refine ⟨⟨by omega, by omega, TK.adds_b _ _ ht (fun k hk => ?_)⟩, ?_, TK.adds_1 _ _⟩
  · rcases List.mem_append.mp hk with e | e
    · exact h1 k e
    · rw [List.mem_singleton.mp e]
      exact ⟨⟨by show (-128 : Int) ≤ 256; omega, by show (256 : Int) ≤ 266; omega⟩, hl, Nat.zero_le _⟩
  · unfold endT
    rw [hc]
    have := TK.adds_get (tks b len 600 0 ++ [(256, len, 0)]) ((b, hd), t2, 0) (tks b len 600 0).length (256, len, 0) (by simp)
    rw [show (((b, hd), t2, 0) : TK).2.2 + (tks b len 600 0).length = (tks b len 600 0).length + 1 - 1 by show 0 + _ = _; omega] at this
    exact this.1
def ap5 (b : Nat → Nat) (n : Nat) (w0 w1 w2 w3 w4 : Int32) : Nat → Nat := hld (hld (hld (hld (hld b n w0) (n + 4) w1) (n + 8) w2) (n + 12) w3) (n + 16) w4
section
variable {v : Ev} {h : Hp} {top x : Nat} {Z : CS}
theorem tk_up {t : TK} {R : RD} (hR : isRd v h (x + 57) R) : isRd v (tkH v h (x + 58) t) (x + 57) (R.1, t, R.2.2) :=
  ⟨(tkH_out (by omega)).trans hR.1, tkH_is, hR.2.2.1.frame (fun a h1 h2 => tkH_out (by omega)), (tkH_out (by omega)).trans hR.2.2.2.1, (tkH_out (by omega)).trans hR.2.2.2.2⟩
theorem c_append {w0 w1 w2 w3 w4 : Int32} (K : okX v h x Z) (z : okZ Z) : Cal v mX10_append 3 0 0 [.ref x, .int w0, .int w1, .int w2, .int w3, .int w4] h top (pM v h top x (if Z.1.2.2 ≤ 580 then ((Z.1.1, ap5 Z.1.2.1 Z.1.2.2 w0 w1 w2 w3 w4, Z.1.2.2 + 20), Z.2) else Z) (some (.int (if Z.1.2.2 ≤ 580 then nI (Z.1.2.2 + 20) else zI (-1))))) noX := by
  obtain ⟨R, hR, okq, hRT⟩ := K.1.2.2.2
  have hd6 := z.2.2.2.2
  have e : R.T.1.2 = Z.1.2.2 := by rw [hRT]
  have hx := K.1.1
  refine Cal.ofJ (by decide +kernel) rfl (Nat.le_of_ble_eq_true rfl) fun hz0 => ?_
  refine r_ls [some (.ref x), some (.int w0), some (.int w1), some (.int w2), some (.int w3), some (.int w4), none] rfl ?_
  refine r_aload_n (pc := 0) (i := 0) (tX10_append.at 0 rfl) rfl rfl ?_
  refine r_get (pc := 1) (tX10_append.at 1 rfl) gf_X10_30 (hx) rfl ?_
  refine r_get (pc := 4) (tX10_append.at 2 rfl) gf_X10_83 (hR.1) rfl ?_
  refine r_astore (pc := 7) (i := 6) (tX10_append.at 3 rfl) (by decide) ?_
  refine r_aload (pc := 9) (i := 6) (tX10_append.at 4 rfl) rfl ?_
  refine r_get (pc := 11) (tX10_append.at 5 rfl) gf_X10_87 (hR.2.1.1) rfl ?_
  rw [e]
  refine r_sipush (pc := 14) (w := nI 580) (tX10_append.at 6 rfl) (by decide) ?_
  refine r_icmp_leN (pc := 17) 22 (tX10_append.at 7 rfl) (by decide) (by omega) (by omega) (fun c => ?_) (fun c => ?_)
  · rw [if_pos c, if_pos c]
    have hself := hR.2.1.self
    rw [show R.T = ((Z.1.2.1, Z.1.2.2), R.T.2) by rw [← hRT]] at hself
    refine r_eq (h2 := tkH v h (x + 57 + 1) ((Z.1.2.1, Z.1.2.2), R.T.2)) hself.symm rfl ?_
    refine r_aload (pc := 22) (i := 6) (tX10_append.at 10 rfl) rfl ?_
    refine r_iload_n (pc := 24) (i := 1) (tX10_append.at 11 rfl) rfl rfl ?_
    refine r_callV (M' := mX9_hold) (pc := 25) (tX10_append.at 12 rfl) ml_X10_92 rfl mw_X9_hold ⟨by decide, by decide⟩ (tkH_0) rfl rfl (c_hold (by omega)) rfl rfl (Nat.le_of_ble_eq_true rfl) (Nat.le_of_ble_eq_true rfl) (Nat.le_of_ble_eq_true rfl) ?_
    rintro _ _ _ ⟨rfl, rfl, rfl⟩
    refine r_aload (pc := 28) (i := 6) (tX10_append.at 13 rfl) rfl ?_
    refine r_iload_n (pc := 30) (i := 2) (tX10_append.at 14 rfl) rfl rfl ?_
    refine r_callV (M' := mX9_hold) (pc := 31) (tX10_append.at 15 rfl) ml_X10_92 rfl mw_X9_hold ⟨by decide, by decide⟩ (tkH_0) rfl rfl (c_hold (by omega)) rfl rfl (Nat.le_of_ble_eq_true rfl) (Nat.le_of_ble_eq_true rfl) (Nat.le_of_ble_eq_true rfl) ?_
    rintro _ _ _ ⟨rfl, rfl, rfl⟩
    refine r_aload (pc := 34) (i := 6) (tX10_append.at 16 rfl) rfl ?_
    refine r_iload_n (pc := 36) (i := 3) (tX10_append.at 17 rfl) rfl rfl ?_
    refine r_callV (M' := mX9_hold) (pc := 37) (tX10_append.at 18 rfl) ml_X10_92 rfl mw_X9_hold ⟨by decide, by decide⟩ (tkH_0) rfl rfl (c_hold (by omega)) rfl rfl (Nat.le_of_ble_eq_true rfl) (Nat.le_of_ble_eq_true rfl) (Nat.le_of_ble_eq_true rfl) ?_
    rintro _ _ _ ⟨rfl, rfl, rfl⟩
    refine r_aload (pc := 40) (i := 6) (tX10_append.at 19 rfl) rfl ?_
    refine r_iload (pc := 42) (i := 4) (tX10_append.at 20 rfl) rfl ?_
    refine r_callV (M' := mX9_hold) (pc := 44) (tX10_append.at 21 rfl) ml_X10_92 rfl mw_X9_hold ⟨by decide, by decide⟩ (tkH_0) rfl rfl (c_hold (by omega)) rfl rfl (Nat.le_of_ble_eq_true rfl) (Nat.le_of_ble_eq_true rfl) (Nat.le_of_ble_eq_true rfl) ?_
    rintro _ _ _ ⟨rfl, rfl, rfl⟩
    refine r_aload (pc := 47) (i := 6) (tX10_append.at 22 rfl) rfl ?_
    refine r_iload (pc := 49) (i := 5) (tX10_append.at 23 rfl) rfl ?_
    refine r_callV (M' := mX9_hold) (pc := 51) (tX10_append.at 24 rfl) ml_X10_92 rfl mw_X9_hold ⟨by decide, by decide⟩ (tkH_0) rfl rfl (c_hold (by omega)) rfl rfl (Nat.le_of_ble_eq_true rfl) (Nat.le_of_ble_eq_true rfl) (Nat.le_of_ble_eq_true rfl) ?_
    rintro _ _ _ ⟨rfl, rfl, rfl⟩
    refine r_aload (pc := 54) (i := 6) (tX10_append.at 25 rfl) rfl ?_
    refine r_get (pc := 56) (tX10_append.at 26 rfl) gf_X10_87 (tkH_0) rfl ?_
    refine r_iret (pc := 59) (tX10_append.at 27 rfl) rfl (Nat.le_of_ble_eq_true rfl) (Nat.le_of_ble_eq_true rfl) ?_
    refine ⟨rfl, rfl, ?_, fun a ha => tkH_out (by omega)⟩
    exact K.uR ⟨_, tk_up hR, ⟨okq.1, okq.2.1, okq.2.2⟩, rfl⟩ (fun a ha => tkH_out (by omega))
  · rw [if_neg (by omega), if_neg (by omega)]
    refine r_iconst (pc := 20) (w := zI (-1)) (tX10_append.at 8 rfl) (by decide) ?_
    refine r_iret (pc := 21) (tX10_append.at 9 rfl) rfl (Nat.le_of_ble_eq_true rfl) (Nat.le_of_ble_eq_true rfl) ?_
    exact ⟨rfl, rfl, K, frX.rfl⟩
theorem c_keepX2 (K : okX v h x Z) (z : okZ Z) : Cal v mX4_keep 3 0 0 [.ref (x + 7), .ref (x + 1)] h top (fun r h' top' => r = none ∧ top = top' ∧ okX v h' x Z.keep ∧ ∀ a, (a < x + 7 ∨ x + 57 ≤ a) → h' a = h a) noX := by
  obtain ⟨-, -, hp8, hc8, -⟩ := z
  have hH := K.1.2.2.1
  refine (c_keep (top := top) hH hp8 hc8 K.1.2.1 (by omega)).mono (fun r h' top' => ?_)
  rintro ⟨rfl, rfl, rfl⟩
  have hk : kA (x + 7) Z.2.2.1 = x + 9 + 6 * Z.2.2.1 := by unfold kA; omega
  have fo : ∀ a, (a < x + 7 ∨ x + 7 + 50 ≤ a) → hp (gH v h (kA (x + 7) Z.2.2.1) ((Z.2.2.2.2 Z.2.2.1).cop Z.2.1)) (x + 7) (hE (x + 7) ((Z.2.2.1 + 1) % 8) (min (Z.2.2.2.1 + 1) 8)) a = h a := fun a ha => by
    rw [hp_ne _ _ (by omega), gH_out _ _ _ _ (by omega)]
  refine ⟨rfl, rfl, K.uH ⟨hp_eq _ _ _, ?_, fun i hi => ?_⟩ fo, fun a ha => fo a (by omega)⟩
  · rw [hp_ne _ _ (by omega), gH_out _ _ _ _ (by omega)]
    exact hH.2.1
  · show isG v _ (kA (x + 7) i) (if i = Z.2.2.1 then (Z.2.2.2.2 Z.2.2.1).cop Z.2.1 else Z.2.2.2.2 i)
    by_cases e : i = Z.2.2.1
    · rw [if_pos e, e]
      exact (gH_is _ _ _ _).put (by omega)
    · rw [if_neg e]
      exact (hH.2.2 i hi).frame (fun a h1 h2 => by
        unfold kA at h1 h2
        rw [hp_ne _ _ (by omega), gH_out _ _ _ _ (by omega)])
theorem rdC_T : ∀ (f n : Nat) (w : Bool) (R : RD), (rdC f n w R).2.T = R.T
  | 0, n, w, R => rfl
  | f + 1, n, w, R => by
    have fT : (rdFac R.take).2.T = R.T := by
      have e : ∀ y, (R.take.emit y).T = R.T := fun y => (grw_emit R.take y).1
      unfold rdFac
      split
      · split
        · rfl
        · exact e _
      · split
        · exact e _
        · split
          · exact e _
          · split
            · exact e _
            · rfl
    rw [rdC]
    split
    · split
      · split
        · rfl
        · exact (rdC_T f _ _ _).trans (grw_push R.take _).1
      · split
        · exact (rdC_T f _ _ _).trans fT
        · exact fT
    · split
      · exact (rdC_T f _ _ _).trans (((grw_relF _ _ R.take).trans (grw_push _ _)).1)
      · split
        · exact (rdC_T f _ _ _).trans (grw_relF 1 _ R.take).1
        · split
          · exact (grw_relF 1 _ R.take).1
          · rfl
theorem rdCost_T (R : RD) : (rdCost R).2.T = R.T := by
  unfold rdCost
  split
  · rfl
  · exact rdC_T _ _ _ _
theorem rdStm_T {F : Nat} {R : RD} (h : okR R) (hn : 1 ≤ R.G.n) : (rdStm F R).2.T = R.T := by
  unfold rdStm
  split
  · split
    · exact (fr5_edge h).1.1
    · exact ((fr5_edge h).trans (fr5_semi (rdEdge_ok h))).1.1
  · split
    · split
      · exact (fr5_abs h).1.1
      · exact ((fr5_abs h).trans (fr5_semi (rdAbs_ok h hn))).1.1
    · split
      · split
        · exact (fr5_join h).1.1
        · exact ((fr5_join h).trans (fr5_semi (rdJoin_ok h hn))).1.1
      · split
        · split
          · exact rdCost_T R
          · exact rdCost_T R
        · rfl
theorem rdL_T {F : Nat} : ∀ (f : Nat) {R : RD}, okR R → 1 ≤ R.G.n → (rdL F f R).2.T = R.T
  | 0, R, _, _ => rfl
  | f + 1, R, h, hn => by
    have ht := RD.take_ok h
    rw [rdL]
    split
    · rfl
    · split
      · exact rdStm_T ht hn
      · next c => exact (rdL_T f (rdStm_ok ht hn) (by rw [(rdStm_fr ht hn (bT c)).2.1]; exact hn)).trans (rdStm_T ht hn)
theorem rdSetup_T {v : Ev} {F : Nat} {R : RD} (h : okR R.ini) : (rdSetup v F R).2.T = R.T := by
  have h1 := RD.take_ok h
  have h2 := rdNum_ok (a := 2) (b := 6) h1
  have f2 : fr5 R.ini.take (rdNum 2 6 R.ini.take).2 := fr5_num h1
  unfold rdSetup
  split
  · rfl
  · split
    · exact f2.1.1
    · next c =>
      obtain ⟨g1, g2, g3⟩ := rdNum_t (bT c)
      have h3 : okR ((rdNum 2 6 R.ini.take).2.clr v) := RD.sG_ok h2 (okG.cl0 (by rw [g1]; exact g3))
      have f3 := fr5_semi h3
      split
      · exact f3.1.1.trans f2.1.1
      · refine (rdL_T _ (rdSemi_ok h3) ?_).trans (f3.1.1.trans f2.1.1)
        rw [f3.1.2.1]
        show 1 ≤ (rdNum 2 6 R.ini.take).2.vl
        rw [g1]
        omega
/-- the codes that a text has left -/
def cdN (R : RD) : Nat := if R.hc = 0 then 1 else R.cl
def cdC (R : RD) : Nat → Int := fun k => if R.hc = 0 then 1 else if k < R.cl then R.cd k else 0
def ldZ (Z : CS) (X : Bool × RD) : CS := if X.1 = true then CS.sG (CS.keep ((-1, Z.1.2.1, 0), Z.2)) (Z.2.1.cop X.2.G) else ((X.2.eat, Z.1.2.1, 0), Z.2)
def ldR (X : Bool × RD) : Int32 := if X.1 = true then nI X.2.G.e else zI X.2.err
/-- behind load: R1 is the reader as it begins -/
def pLd (v : Ev) (h : Hp) (top x len : Nat) (Z : CS) : Option Value → Hp → Nat → Prop := fun r h' top' => ∃ R1 : RD, okR R1.ini ∧ endT R1.T ∧ (∃ t2, tkA ((Z.1.2.1, Z.1.2.2), t2, 0) ∧ R1.T = ((Z.1.2.1, 0), (scT Z.1.2.1 Z.1.2.2 len t2).2)) ∧
  r = some (.int (ldR (rdSetup v top R1))) ∧ okX v h' x (ldZ Z (rdSetup v top R1)) ∧ okR (rdSetup v top R1).2 ∧
  ((top' = top ∧ frX h h' x ∧ ((rdSetup v top R1).1 = true → (rdSetup v top R1).2.hc = 0)) ∨
   (top' = top + 1 ∧ (∀ a, (a < x ∨ x + 96 ≤ a) → a ≠ top → h' a = h a) ∧ ((rdSetup v top R1).1 = true → (rdSetup v top R1).2.hc = 1 ∧ h' top = some (aI v (rdSetup v top R1).2.cl (sF (cdC (rdSetup v top R1).2))))))
theorem c_load {len : Nat} (K : okX v h x Z) (z : okZ Z) (hb : ∀ k, Z.1.2.1 k < 256) (hlen : len ≤ Z.1.2.2) (htop : x + 96 ≤ top) : Cal v mX10_load 10 1 600 [.ref x, .int (nI len)] h top (pLd v h top x len Z) noX := by
  obtain ⟨R, hR, okq, hRT⟩ := K.1.2.2.2
  have hd6 := z.2.2.2.2
  have e : R.T.1.2 = Z.1.2.2 := by rw [hRT]
  have hx := K.1.1
  refine Cal.ofJ (by decide +kernel) rfl (Nat.le_of_ble_eq_true rfl) fun hz0 => ?_
  refine r_ls [some (.ref x), some (.int (nI len)), none] rfl ?_
  refine r_aload_n (pc := 0) (i := 0) (tX10_load.at 0 rfl) rfl rfl ?_
  refine r_get (pc := 1) (tX10_load.at 1 rfl) gf_X10_30 (hx) rfl ?_
  refine r_get (pc := 4) (tX10_load.at 2 rfl) gf_X10_83 (hR.1) rfl ?_
  refine r_astore_n (pc := 7) (i := 2) (tX10_load.at 3 rfl) rfl (by decide) ?_
  refine r_iload_n (pc := 8) (i := 1) (tX10_load.at 4 rfl) rfl rfl ?_
  refine r_if_ltN (pc := 9) 20 (tX10_load.at 5 rfl) (by decide) (by omega) ?_
  refine r_iload_n (pc := 12) (i := 1) (tX10_load.at 6 rfl) rfl rfl ?_
  refine r_aload_n (pc := 13) (i := 2) (tX10_load.at 7 rfl) rfl rfl ?_
  refine r_get (pc := 14) (tX10_load.at 8 rfl) gf_X10_87 (hR.2.1.1) rfl ?_
  rw [e]
  refine r_icmp_leN (pc := 17) 30 (tX10_load.at 9 rfl) (by decide) (by omega) (by omega) (fun _ => ?_) (fun c => by omega)
  have hself := hR.2.1.self
  have eT : R.T = ((Z.1.2.1, Z.1.2.2), (R.T.2.1, R.T.2.2)) := by rw [← hRT]
  have htA : tkA ((Z.1.2.1, Z.1.2.2), R.T.2.1, 0) := okq.2.1
  rw [eT] at hself
  refine r_eq (h2 := tkH v h (x + 57 + 1) ((Z.1.2.1, Z.1.2.2), R.T.2.1, R.T.2.2)) hself.symm rfl ?_
  obtain ⟨s1, s2, s3⟩ := scT_ok (hd := Z.1.2.2) hb (show len ≤ 600 by omega) htA
  refine r_aload_n (pc := 30) (i := 2) (tX10_load.at 15 rfl) rfl rfl ?_
  refine r_iload_n (pc := 31) (i := 1) (tX10_load.at 16 rfl) rfl rfl ?_
  refine r_callV (M' := mX9_scan) (pc := 32) (tX10_load.at 17 rfl) ml_X10_103 rfl mw_X9_scan ⟨by decide, by decide⟩ (tkH_0) rfl rfl (c_scan hb hd6 hlen) rfl rfl (Nat.le_of_ble_eq_true rfl) (Nat.le_of_ble_eq_true rfl) (Nat.le_of_ble_eq_true rfl) ?_
  rintro _ _ _ ⟨rfl, rfl, rfl⟩
  refine r_eq (h2 := tkH v h (x + 57 + 1) (scT Z.1.2.1 Z.1.2.2 len R.T.2.1)) rfl rfl ?_
  refine r_aload_n (pc := 35) (i := 2) (tX10_load.at 18 rfl) rfl rfl ?_
  refine r_iconst (pc := 36) (w := nI 0) (tX10_load.at 19 rfl) (by decide) ?_
  refine r_put (pc := 37) (tX10_load.at 20 rfl) pf_X10_87 (tkH_0) (Nat.le_of_ble_eq_true rfl) (rfl) (rfl) ?_
  refine r_eq (h2 := tkH v h (x + 58) ((Z.1.2.1, 0), (scT Z.1.2.1 Z.1.2.2 len R.T.2.1).2)) ((tkH_p0 0 _).trans (by rw [s3])) rfl ?_
  generalize hT1 : (((Z.1.2.1, 0), (scT Z.1.2.1 Z.1.2.2 len R.T.2.1).2) : TK) = T1
  have hTk : T1.1 = (Z.1.2.1, 0) := by rw [← hT1]
  have okT1 : okT T1 := by rw [← hT1]; exact s1
  have enT1 : endT T1 := by rw [← hT1]; exact s2
  have hR1 : isRd v (tkH v h (x + 58) T1) (x + 57) (R.1, T1, R.2.2) := tk_up hR
  have okR1 : okR (RD.ini (R.1, T1, R.2.2)) := okq.r okT1
  have K1 : okX v (tkH v h (x + 58) T1) x ((Z.1.1, Z.1.2.1, 0), Z.2) := K.uR ⟨_, hR1, ⟨okq.1, okT1.2.2, okq.2.2⟩, hTk⟩ (fun a ha => tkH_out (by omega))
  have f1 : frX h (tkH v h (x + 58) T1) x := fun a ha => tkH_out (by omega)
  have hTT : ∃ t2, tkA ((Z.1.2.1, Z.1.2.2), t2, 0) ∧ T1 = ((Z.1.2.1, 0), (scT Z.1.2.1 Z.1.2.2 len t2).2) := ⟨R.T.2.1, htA, hT1.symm⟩
  clear hT1
  generalize tkH v h (x + 58) T1 = H1 at *
  have cs := c_setup (v := v) (h := H1) (top := top) (q := x + 57) (R := (R.1, T1, R.2.2)) okR1 enT1 (by omega)
  rw [hR1.self] at cs
  obtain ⟨Rn, hRn⟩ : ∃ Rn : RD, Rn = (R.1, T1, R.2.2) := ⟨_, rfl⟩
  rw [← hRn] at cs hR1 okR1
  have hRnT : Rn.T = T1 := by rw [hRn]; rfl
  clear hRn
  have hXT := rdSetup_T (v := v) (F := top) okR1
  generalize hX : rdSetup v top Rn = X at *
  have hXT1 : X.2.T.1 = (Z.1.2.1, 0) := by rw [hXT, hRnT, hTk]
  have hPo : ∀ (r : Option Value) (h' : Hp) (top' : Nat), r = some (.int (ldR X)) → okX v h' x (ldZ Z X) → okR X.2 → ((top' = top ∧ frX h h' x ∧ (X.1 = true → X.2.hc = 0)) ∨ (top' = top + 1 ∧ (∀ a, (a < x ∨ x + 96 ≤ a) → a ≠ top → h' a = h a) ∧ (X.1 = true → X.2.hc = 1 ∧ h' top = some (aI v X.2.cl (sF (cdC X.2)))))) → pLd v h top x len Z r h' top' := by
    intro r h' top' q1 q2 q3 q4
    obtain ⟨t2, g1, g2⟩ := hTT
    exact ⟨Rn, okR1, by rw [hRnT]; exact enT1, ⟨t2, g1, hRnT.trans g2⟩, by rw [hX]; exact q1, by rw [hX]; exact q2, by rw [hX]; exact q3, by rw [hX]; exact q4⟩
  refine r_aload_n (pc := 40) (i := 0) (tX10_load.at 21 rfl) rfl rfl ?_
  refine r_get (pc := 41) (tX10_load.at 22 rfl) gf_X10_30 (K1.1.1) rfl ?_
  refine r_callV (M' := mX6_readSetup) (pc := 44) (tX10_load.at 23 rfl) ml_X10_106 rfl mw_X6_readSetup ⟨by decide, by decide⟩ (hR1.1) rfl rfl (cs) rfl rfl (Nat.le_of_ble_eq_true rfl) (Nat.le_of_ble_eq_true rfl) (Nat.le_of_ble_eq_true rfl) ?_
  rintro _ H2 top2 ⟨rfl, ok2, hor⟩
  -- both ways told in one
  have both : okX v H2 x ((Z.1.1, Z.1.2.1, 0), Z.2) ∧ isRd v H2 (x + 57) X.2 ∧ top ≤ top2 ∧ ((top2 = top ∧ frX h H2 x ∧ (X.1 = true → X.2.hc = 0)) ∨ (top2 = top + 1 ∧ (∀ a, (a < x ∨ x + 96 ≤ a) → a ≠ top → H2 a = h a) ∧ (X.1 = true → X.2.hc = 1 ∧ H2 top = some (aI v X.2.cl (sF (cdC X.2)))))) := by
    rcases hor with ⟨rfl, rfl, q⟩ | ⟨n, f, rfl, rfl, q⟩
    · exact ⟨K1.uR ⟨_, rdH_is, ok2.q, hXT1⟩ (fun a ha => rdH_out (by omega)), rdH_is, Nat.le_refl _, Or.inl ⟨rfl, fun a ha => (rdH_out (by omega)).trans (f1 a ha), q⟩⟩
    · refine ⟨(K1.frame (fun a h1 h2 => hp_ne _ _ (by omega))).uR ⟨_, rdH_is, ok2.q, hXT1⟩ (fun a ha => rdH_out (by omega)), rdH_is, by omega, Or.inr ⟨rfl, fun a ha hne => (rdH_out (by omega)).trans ((hp_ne _ _ hne).trans (f1 a ha)), fun hx1 => ?_⟩⟩
      obtain ⟨q1, rfl, rfl⟩ := q hx1
      refine ⟨q1, ?_⟩
      rw [rdH_out (by omega), hp_eq]
      refine congrArg (fun f => some (aI v X.2.cl f)) ?_
      funext k
      show (if k < X.2.cl then zI (X.2.cd k) else 0) = zI (if X.2.hc = 0 then 1 else if k < X.2.cl then X.2.cd k else 0)
      rw [if_neg (show ¬ X.2.hc = 0 by omega)]
      split <;> rfl
  obtain ⟨K2, hR2, ht2, hcase⟩ := both
  clear hor
  by_cases c : X.1 = true
  · rw [c]
    refine r_if_neN (pc := 47) 69 (tX10_load.at 24 rfl) (by decide) (by decide) (fun _ => ?_) (fun z => absurd z (by decide))
    refine r_aload_n (pc := 69) (i := 0) (tX10_load.at 34 rfl) rfl rfl ?_
    refine r_iconst (pc := 70) (w := zI (-1)) (tX10_load.at 35 rfl) (by decide) ?_
    refine r_put (pc := 71) (tX10_load.at 36 rfl) pf_X10_7 (K2.1.1) (Nat.le_of_ble_eq_true rfl) (rfl) (rfl) ?_
    refine r_eq (h2 := hp H2 x (xE x (-1))) rfl rfl ?_
    have K3 : okX v (hp H2 x (xE x (-1))) x ((-1, Z.1.2.1, 0), Z.2) := K2.u0 (hp_eq _ _ _) (fun a ha => hp_ne _ _ (by omega))
    have hR3 : isRd v (hp H2 x (xE x (-1))) (x + 57) X.2 := hR2.agr (fun a h1 h2 => hp_ne _ _ (by omega))
    have f3 : ∀ a, a ≠ x → hp H2 x (xE x (-1)) a = H2 a := fun a ha => hp_ne _ _ ha
    generalize hp H2 x (xE x (-1)) = H3 at *
    refine r_aload_n (pc := 74) (i := 0) (tX10_load.at 37 rfl) rfl rfl ?_
    refine r_get (pc := 75) (tX10_load.at 38 rfl) gf_X10_23 (K3.1.1) rfl ?_
    refine r_aload_n (pc := 78) (i := 0) (tX10_load.at 39 rfl) rfl rfl ?_
    refine r_get (pc := 79) (tX10_load.at 40 rfl) gf_X10_16 (K3.1.1) rfl ?_
    refine r_callV (M' := mX4_keep) (pc := 82) (tX10_load.at 41 rfl) ml_X10_114 rfl mw_X4_keep ⟨by decide, by decide⟩ (K3.1.2.2.1.1) rfl rfl (c_keepX2 K3 ⟨z.1, z.2.1, z.2.2.1, z.2.2.2.1, Nat.zero_le _⟩) rfl rfl (Nat.le_of_ble_eq_true rfl) (Nat.le_of_ble_eq_true rfl) (Nat.le_of_ble_eq_true rfl) ?_
    rintro _ H4 _ ⟨rfl, rfl, K4, f4⟩
    have hR4 : isRd v H4 (x + 57) X.2 := hR3.agr (fun a h1 h2 => f4 a (by omega))
    have hg4 : isG v H4 (x + 1) Z.2.1 := K4.1.2.1
    have k := c_copy (v := v) (h := H4) (top := top2) (g := x + 1) (o := x + 57 + 6) (G := Z.2.1) (X := X.2.G) hR4.2.2.1 (by omega)
    rw [gH_self hg4] at k
    refine r_aload_n (pc := 85) (i := 0) (tX10_load.at 42 rfl) rfl rfl ?_
    refine r_get (pc := 86) (tX10_load.at 43 rfl) gf_X10_16 (K4.1.1) rfl ?_
    refine r_aload_n (pc := 89) (i := 0) (tX10_load.at 44 rfl) rfl rfl ?_
    refine r_get (pc := 90) (tX10_load.at 45 rfl) gf_X10_30 (K4.1.1) rfl ?_
    refine r_get (pc := 93) (tX10_load.at 46 rfl) gf_X10_118 (hR4.1) rfl ?_
    refine r_callV (M' := mX3_copyFrom) (pc := 96) (tX10_load.at 47 rfl) ml_X10_121 rfl mw_X3_copyFrom ⟨by decide, by decide⟩ (hg4.1) rfl rfl (k) rfl rfl (Nat.le_of_ble_eq_true rfl) (Nat.le_of_ble_eq_true rfl) (Nat.le_of_ble_eq_true rfl) ?_
    rintro _ _ _ ⟨rfl, rfl, rfl⟩
    have K5 := K4.sG (Z.2.1.cop X.2.G)
    refine r_aload_n (pc := 99) (i := 0) (tX10_load.at 48 rfl) rfl rfl ?_
    refine r_get (pc := 100) (tX10_load.at 49 rfl) gf_X10_16 (K5.1.1) rfl ?_
    refine r_get (pc := 103) (tX10_load.at 50 rfl) gf_X10_124 (K5.1.2.1.1) rfl ?_
    refine r_iret (pc := 106) (tX10_load.at 51 rfl) rfl (Nat.le_of_ble_eq_true rfl) (Nat.le_of_ble_eq_true rfl) ?_
    refine hPo _ _ _ (by rw [ldR, if_pos c]; rfl) (by rw [ldZ, if_pos c]; exact K5) ok2 ?_
    have f5 : ∀ a, (a < x ∨ x + 96 ≤ a) → gH v H4 (x + 1) (Z.2.1.cop X.2.G) a = H2 a := fun a ha => by rw [gH_out _ _ _ _ (by omega), f4 a (by omega), f3 a (by omega)]
    rcases hcase with ⟨q1, q2, q3⟩ | ⟨q1, q2, q3⟩
    · exact Or.inl ⟨q1, fun a ha => (f5 a ha).trans (q2 a ha), q3⟩
    · exact Or.inr ⟨q1, fun a ha hne => (f5 a ha).trans (q2 a ha hne), fun hx1 => ⟨(q3 hx1).1, (f5 top (by omega)).trans (q3 hx1).2⟩⟩
  · have c' : X.1 = false := by simpa using c
    rw [c']
    refine r_if_neN (pc := 47) 69 (tX10_load.at 24 rfl) (by decide) (by decide) (fun z => absurd rfl z) (fun _ => ?_)
    refine r_aload_n (pc := 50) (i := 0) (tX10_load.at 25 rfl) rfl rfl ?_
    refine r_aload_n (pc := 51) (i := 0) (tX10_load.at 26 rfl) rfl rfl ?_
    refine r_get (pc := 52) (tX10_load.at 27 rfl) gf_X10_30 (K2.1.1) rfl ?_
    refine r_get (pc := 55) (tX10_load.at 28 rfl) gf_X10_110 (hR2.1) rfl ?_
    refine r_put (pc := 58) (tX10_load.at 29 rfl) pf_X10_7 (K2.1.1) (Nat.le_of_ble_eq_true rfl) (rfl) (rfl) ?_
    refine r_eq (h2 := hp H2 x (xE x X.2.eat)) rfl rfl ?_
    have K3 : okX v (hp H2 x (xE x X.2.eat)) x ((X.2.eat, Z.1.2.1, 0), Z.2) := K2.u0 (hp_eq _ _ _) (fun a ha => hp_ne _ _ (by omega))
    have hR3 : isRd v (hp H2 x (xE x X.2.eat)) (x + 57) X.2 := hR2.agr (fun a h1 h2 => hp_ne _ _ (by omega))
    refine r_aload_n (pc := 61) (i := 0) (tX10_load.at 30 rfl) rfl rfl ?_
    refine r_get (pc := 62) (tX10_load.at 31 rfl) gf_X10_30 (K3.1.1) rfl ?_
    refine r_get (pc := 65) (tX10_load.at 32 rfl) gf_X10_111 (hR3.1) rfl ?_
    refine r_iret (pc := 68) (tX10_load.at 33 rfl) rfl (Nat.le_of_ble_eq_true rfl) (Nat.le_of_ble_eq_true rfl) ?_
    refine hPo _ _ _ (by rw [ldR, if_neg c]; rfl) (by rw [ldZ, if_neg c]; exact K3) ok2 ?_
    rcases hcase with ⟨q1, q2, q3⟩ | ⟨q1, q2, q3⟩
    · exact Or.inl ⟨q1, fun a ha => (hp_ne _ _ (by omega)).trans (q2 a ha), q3⟩
    · exact Or.inr ⟨q1, fun a ha hne => (hp_ne _ _ (by omega)).trans (q2 a ha hne), fun hx1 => absurd hx1 c⟩
end

