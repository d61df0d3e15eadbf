/-! ===== the law: areHits (written by wip/p37/gen52.py) ===== -/
def frT (h h' : Hp) (top x : Nat) : Prop := ∀ a, a < top → (a < x ∨ x + 96 ≤ a) → h' a = h a
theorem isLw.fr {v : Ev} {h h' : Hp} {y x top : Nat} {S : LT} (L : isLw v h y S) (f : frT h h' top x) (h1 : y + 18 ≤ top) (h2 : y + 18 ≤ x ∨ x + 96 ≤ y) : isLw v h' y S := L.agr fun a q1 q2 => f a (by omega) (by omega)
theorem okC.fr {v : Ev} {h h' : Hp} {x top cn : Nat} {G : GT} {cc : Nat → Int} (c : okC v h x G cn cc) (f : frT h h' top x) (hF : G.F < top) : okC v h' x G cn cc := by
  obtain ⟨c1, c2, c3⟩ := c
  refine ⟨?_, c2, c3⟩
  rcases c1 with c1 | c1
  · exact Or.inl c1
  · exact Or.inr ((f _ hF c2).trans c1)
theorem okX.upT {v : Ev} {h : Hp} {x a : Nat} {Z : CS} {e : va_E} (K : okX v h x Z) (ha : x + 96 ≤ a) : okX v (hp h a e) x Z := K.frame fun b h1 h2 => hp_ne _ _ (by omega)
theorem c_hits0 {v : Ev} {h : Hp} {top y x t : Nat} {S : LT} {Z : CS} {An Bn : Nat → Nat} (L : isLw v h y S) (K : okX v h x Z) (z : okZ Z) (hyt : y + 18 ≤ top) (hxt : x + 96 ≤ top) (hxy : y + 18 ≤ x ∨ x + 96 ≤ y) (ok : okS9 S) (hG : Z.2.1.n = S.n) (ht : t < S.n)
    (hw : ∀ u, u < S.n → (riR S.W S.n t S.n).testBit u = true → (rch Z.2.1.W Z.2.1.n u).testBit t = true)
    (hm : ∀ u, u < S.n → (riR S.W S.n t S.n).testBit u = true → okM Z.2.1.W Z.2.1.n u t (stG Z.2.1.W Z.2.1.n))
    (hmu : ∀ u, u < S.n → (riR S.W S.n t S.n).testBit u = true → muA Z.2.1.W Z.2.1.n u t (stG Z.2.1.W Z.2.1.n) = (An u : Nat) ∧ muB Z.2.1.W Z.2.1.n u t (stG Z.2.1.W Z.2.1.n) = (Bn u : Nat) ∧ 1 ≤ Bn u ∧ Bn u ≤ 9223372036854775807 ∧ An u ≤ 9223372036854775807 ∧ Nat.gcd (An u) (Bn u) = 1)
    (hA0 : An t = 0)
    (hc : ∀ u, u ≤ S.n → lcC Bn (fun u => (riR S.W S.n t S.n).testBit u) u ≤ 9223372036854775807)
    (eq : ∀ w, w < S.n → (riR S.W S.n t S.n).testBit w = true → (2 ^ t).testBit w = false → smI S.W S.C 0 (lcC Bn (fun u => (riR S.W S.n t S.n).testBit u) S.n) (sV (fun u => (An u : Nat)) Bn (fun u => (riR S.W S.n t S.n).testBit u) (lcC Bn (fun u => (riR S.W S.n t S.n).testBit u) S.n)) w S.n = (S.D w : Nat) * sV (fun u => (An u : Nat)) Bn (fun u => (riR S.W S.n t S.n).testBit u) (lcC Bn (fun u => (riR S.W S.n t S.n).testBit u) S.n) w) :
    Cal v mL_areHits 129 5 30 [.ref y, .ref x, .int (nI t), .int (nI 0)] h top (fun r h' top' => r = some (.int (nI 1)) ∧ okX v h' x Z ∧ top ≤ top' ∧ frT h h' top x) noX := by
  have okk := ok
  obtain ⟨hn, hW, hC, hD⟩ := ok
  have hself : (riR S.W S.n t S.n).testBit t = true := riR_in _
  generalize hQ : riR S.W S.n t S.n = Q at *
  refine Cal.ofJ (by decide +kernel) rfl (Nat.le_of_ble_eq_true rfl) fun hz0 => ?_
  refine r_ls [some (.ref y), some (.ref x), some (.int (nI t)), some (.int (nI 0)), none, none, none, none] rfl ?_
  refine r_aload_n (pc := 0) (i := 0) (tL_areHits.at 0 rfl) rfl rfl ?_
  refine r_iload_n (pc := 1) (i := 2) (tL_areHits.at 1 rfl) rfl rfl ?_
  refine r_callV (M' := mL_reached) (pc := 2) (tL_areHits.at 2 rfl) ml_L_56 rfl mw_L_reached ⟨by decide, by decide⟩ (L.1) rfl rfl (c_reached L hyt hn hW ht) rfl rfl (Nat.le_of_ble_eq_true rfl) (Nat.le_of_ble_eq_true rfl) (Nat.le_of_ble_eq_true rfl) ?_
  rintro _ _ _ ⟨rfl, rfl, rfl⟩
  rw [hQ]
  refine r_astore (pc := 5) (i := 4) (tL_areHits.at 3 rfl) (by decide) ?_
  refine r_aload_n (pc := 7) (i := 0) (tL_areHits.at 4 rfl) rfl rfl ?_
  refine r_get (pc := 8) (tL_areHits.at 5 rfl) gf_L_52 ((hp_ne _ _ (by omega)).trans L.1) rfl ?_
  refine r_newaJ (pc := 11) S.n (tL_areHits.at 6 rfl) rfl (by omega) ac_long (Nat.le_of_ble_eq_true rfl) (by show 0 + 6 + S.n ≤ 30; omega) (fun fr11 => ?_)
  refine r_widen (c2 := 2) (s2 := 12) (by omega) (by omega) ?_
  refine r_astore (pc := 13) (i := 5) (tL_areHits.at 7 rfl) (by decide) ?_
  refine r_aload_n (pc := 15) (i := 0) (tL_areHits.at 8 rfl) rfl rfl ?_
  refine r_get (pc := 16) (tL_areHits.at 9 rfl) gf_L_52 ((hp_ne _ _ (by omega)).trans ((hp_ne _ _ (by omega)).trans L.1)) rfl ?_
  refine r_newaJ (pc := 19) S.n (tL_areHits.at 10 rfl) rfl (by omega) ac_long (Nat.le_of_ble_eq_true rfl) (by show 12 + S.n ≤ 30; omega) (fun fr19 => ?_)
  refine r_widen (c2 := 3) (s2 := 18) (by omega) (by omega) ?_
  refine r_astore (pc := 21) (i := 6) (tL_areHits.at 11 rfl) (by decide) ?_
  refine r_iconst (pc := 23) (w := nI 0) (tL_areHits.at 12 rfl) (by decide) ?_
  refine r_istore (pc := 24) (i := 7) (tL_areHits.at 13 rfl) (by decide) ?_
  have f0 : frT h (hp (hp (hp h top (aZ v S.n (zF Q))) (top + 1) (aJ v S.n (fun _ => 0))) (top + 1 + 1) (aJ v S.n (fun _ => 0))) top x := fun a q1 q2 => by rw [hp_ne _ _ (by omega), hp_ne _ _ (by omega), hp_ne _ _ (by omega)]
  have K0 : okX v (hp (hp (hp h top (aZ v S.n (zF Q))) (top + 1) (aJ v S.n (fun _ => 0))) (top + 1 + 1) (aJ v S.n (fun _ => 0))) x Z := ((K.upT hxt).upT (by omega)).upT (by omega)
  generalize hsA : (fun u => if Q.testBit u = true then ((An u : Nat) : Int) else 0) = sA
  generalize hsB : (fun u => if Q.testBit u = true then ((Bn u : Nat) : Int) else 0) = sB
  have key : ∀ u, u ≤ S.n → ∀ h1 : Hp, frT h h1 top x → okX v h1 x Z → h1 top = some (aZ v S.n (zF Q)) → h1 (top + 1) = some (aJ v S.n (scG sA u)) → h1 (top + 1 + 1) = some (aJ v S.n (scG sB u)) →
      J v mL_areHits (rmOf 129 5 30) (KM v (fun r h' top' => r = some (.int (nI 1)) ∧ okX v h' x Z ∧ top ≤ top' ∧ frT h h' top x) noX 5 30) top 3 18 h1 (top + 1 + 1 + 1) 26 [some (.ref y), some (.ref x), some (.int (nI t)), some (.int (nI 0)), some (.ref top), some (.ref (top + 1)), some (.ref (top + 1 + 1)), some (.int (nI u))] [] := by
    refine down ?_ ?_
    · intro h1 f1 K1 e1 e2 e3
      have L1 := L.fr f1 hyt hxy
      refine r_iload (pc := 26) (i := 7) (tL_areHits.at 14 rfl) rfl ?_
      refine r_aload_n (pc := 28) (i := 0) (tL_areHits.at 15 rfl) rfl rfl ?_
      refine r_get (pc := 29) (tL_areHits.at 16 rfl) gf_L_52 (L1.1) rfl ?_
      refine r_icmp_geN (pc := 32) 138 (tL_areHits.at 17 rfl) (by decide) (by omega) (by omega) (fun _ => ?_) (fun c => by omega)
      refine r_aload_n (pc := 138) (i := 0) (tL_areHits.at 75 rfl) rfl rfl ?_
      refine r_get (pc := 139) (tL_areHits.at 76 rfl) gf_L_52 (L1.1) rfl ?_
      refine r_newaZ (pc := 142) S.n (tL_areHits.at 77 rfl) rfl (by omega) ac_boolean (Nat.le_of_ble_eq_true rfl) (by show 18 + S.n ≤ 30; omega) (fun fr142 => ?_)
      refine r_widen (c2 := 4) (s2 := 24) (by omega) (by omega) ?_
      refine r_astore (pc := 144) (i := 7) (tL_areHits.at 78 rfl) (by decide) ?_
      refine r_aload (pc := 146) (i := 7) (tL_areHits.at 79 rfl) rfl ?_
      refine r_iload_n (pc := 148) (i := 2) (tL_areHits.at 80 rfl) rfl rfl ?_
      refine r_iconst (pc := 149) (w := nI 1) (tL_areHits.at 81 rfl) (by decide) ?_
      refine r_zast (pc := 150) (tL_areHits.at 82 rfl) (hp_eq _ _ _) (t) (rfl) (by omega) (by omega) ?_
      rw [zF_st, hp_hp]
      refine r_aload (pc := 151) (i := 5) (tL_areHits.at 83 rfl) rfl ?_
      refine r_iload_n (pc := 153) (i := 2) (tL_areHits.at 84 rfl) rfl rfl ?_
      refine r_lald (pc := 154) (tL_areHits.at 85 rfl) ((hp_ne _ _ (by omega)).trans e2) (t) (rfl) (by omega) (by omega) ?_
      rw [scG_at ht, show sA t = 0 from by rw [← hsA]; simp only [hself, if_true, hA0]; rfl]
      refine r_lconst (pc := 155) (w := lI 0) (tL_areHits.at 86 rfl) (by decide) ?_
      refine r_lcN (pc := 156) 188 (tL_areHits.at 87 rfl) (tL_areHits.at 88 rfl) (by decide) ?_
      refine r_aload_n (pc := 160) (i := 0) (tL_areHits.at 89 rfl) rfl rfl ?_
      refine r_aload (pc := 161) (i := 5) (tL_areHits.at 90 rfl) rfl ?_
      refine r_aload (pc := 163) (i := 6) (tL_areHits.at 91 rfl) rfl ?_
      refine r_aload (pc := 165) (i := 7) (tL_areHits.at 92 rfl) rfl ?_
      refine r_aload (pc := 167) (i := 4) (tL_areHits.at 93 rfl) rfl ?_
      refine r_iload_n (pc := 169) (i := 3) (tL_areHits.at 94 rfl) rfl rfl ?_
      refine r_if_eq (pc := 170) 177 (tL_areHits.at 95 rfl) (by decide) (fun _ => ?_) (fun z => absurd rfl z)
      refine r_iconst (pc := 177) (w := nI 0) (tL_areHits.at 98 rfl) (by decide) ?_
      refine r_callV (M' := mL_isMean) (pc := 178) (tL_areHits.at 99 rfl) ml_L_67 rfl mw_L_isMean ⟨by decide, by decide⟩ ((hp_ne _ _ (by omega)).trans L1.1) rfl rfl (c_isMean (A := fun u => ((An u : Nat) : Int)) (B := Bn) (kn := fun u => (2 ^ t).testBit u) (th := fun u => Q.testBit u) (L1.up (by omega)) (by omega) okk ((hp_ne _ _ (by omega)).trans e2) ((hp_ne _ _ (by omega)).trans e3) (hp_eq _ _ _) ((hp_ne _ _ (by omega)).trans e1)
        (fun u hu hq => by rw [scG_at hu, ← hsA]; exact congrArg lI (if_pos hq)) (fun u hu hq => by rw [scG_at hu, ← hsB]; exact congrArg lI (if_pos hq)) (fun u hu => rfl) (fun u hu => rfl) (by omega) (fun u hu hq => ⟨(hmu u hu hq).2.2.1, (hmu u hu hq).2.2.2.1⟩) hc eq) rfl rfl (Nat.le_of_ble_eq_true rfl) (Nat.le_of_ble_eq_true rfl) (Nat.le_of_ble_eq_true rfl) ?_
      rintro _ h3 top3 ⟨rfl, rfl, f3⟩
      refine r_if_eq (pc := 181) 188 (tL_areHits.at 100 rfl) (by decide) (fun z => absurd z (by decide)) (fun _ => ?_)
      refine r_iconst (pc := 184) (w := nI 1) (tL_areHits.at 101 rfl) (by decide) ?_
      refine r_goto (pc := 185) 189 (tL_areHits.at 102 rfl) (by decide) ?_
      refine r_zret (pc := 189) (tL_areHits.at 104 rfl) rfl rfl (Nat.le_of_ble_eq_true rfl) (Nat.le_of_ble_eq_true rfl) ?_
      refine ⟨rfl, K1.frame fun a q1 q2 => ?_, by omega, fun a q1 q2 => ?_⟩
      · rw [f3 a (by omega), hp_ne _ _ (by omega)]
      · rw [f3 a (by omega), hp_ne _ _ (by omega)]
        exact f1 a q1 q2
    · intro u hu ih h1 f1 K1 e1 e2 e3
      have L1 := L.fr f1 hyt hxy
      refine r_iload (pc := 26) (i := 7) (tL_areHits.at 14 rfl) rfl ?_
      refine r_aload_n (pc := 28) (i := 0) (tL_areHits.at 15 rfl) rfl rfl ?_
      refine r_get (pc := 29) (tL_areHits.at 16 rfl) gf_L_52 (L1.1) rfl ?_
      refine r_icmp_geN (pc := 32) 138 (tL_areHits.at 17 rfl) (by decide) (by omega) (by omega) (fun c => by omega) (fun _ => ?_)
      refine r_aload (pc := 35) (i := 4) (tL_areHits.at 18 rfl) rfl ?_
      refine r_iload (pc := 37) (i := 7) (tL_areHits.at 19 rfl) rfl ?_
      refine r_zald (pc := 39) (tL_areHits.at 20 rfl) (e1) (u) (rfl) (by omega) (by omega) ?_
      have htb : Bool.toNat (Q.testBit u) ≤ 1 := Bool.toNat_le _
      refine r_if_neN (pc := 40) 46 (tL_areHits.at 21 rfl) (by decide) (show Bool.toNat (Q.testBit u) < 2147483648 by omega) (fun c1 => ?_) (fun c1 => ?_)
      · have hq : Q.testBit u = true := by cases q : Q.testBit u <;> simp_all
        obtain ⟨m1, m2, m3, m4, m5, m6⟩ := hmu u hu hq
        have sAu : sA u = ((An u : Nat) : Int) := by rw [← hsA]; exact if_pos hq
        have sBu : sB u = ((Bn u : Nat) : Int) := by rw [← hsB]; exact if_pos hq
        refine r_aload (pc := 46) (i := 5) (tL_areHits.at 23 rfl) rfl ?_
        refine r_iload (pc := 48) (i := 7) (tL_areHits.at 24 rfl) rfl ?_
        refine r_iload_n (pc := 50) (i := 3) (tL_areHits.at 25 rfl) rfl rfl ?_
        refine r_if_eq (pc := 51) 65 (tL_areHits.at 26 rfl) (by decide) (fun _ => ?_) (fun z => absurd rfl z)
        refine r_aload_n (pc := 65) (i := 1) (tL_areHits.at 33 rfl) rfl rfl ?_
        refine r_iload (pc := 66) (i := 7) (tL_areHits.at 34 rfl) rfl ?_
        refine r_iload_n (pc := 68) (i := 2) (tL_areHits.at 35 rfl) rfl rfl ?_
        refine r_iconst (pc := 69) (w := nI 0) (tL_areHits.at 36 rfl) (by decide) ?_
        refine r_callV (M' := mX10_hittingTime) (pc := 70) (tL_areHits.at 37 rfl) ml_L_64 rfl mw_X10_hittingTime ⟨by decide, by decide⟩ (K1.1.1) rfl rfl (c_hitT K1 z (by omega) (by omega) (by omega) (hw u hu hq) (hm u hu hq)) rfl rfl (Nat.le_of_ble_eq_true rfl) (Nat.le_of_ble_eq_true rfl) (Nat.le_of_ble_eq_true rfl) ?_
        rintro _ h2 top2 ⟨rfl, rfl, K2, f2⟩
        rw [show fp 0 (muA Z.2.1.W Z.2.1.n u t (stG Z.2.1.W Z.2.1.n)) (muB Z.2.1.W Z.2.1.n u t (stG Z.2.1.W Z.2.1.n)) = sA u from by rw [sAu, ← m1]; rfl]
        refine r_last (pc := 73) (tL_areHits.at 38 rfl) ((f2 _ (by omega)).trans e2) u rfl hu (Nat.le_trans (Nat.le_of_lt_succ (Nat.lt_succ_of_le hn)) (by omega)) ?_
        rw [scG_up]
        have K3 := K2.upT (a := top + 1) (e := aJ v S.n (scG sA (u + 1))) (by omega)
        have f3 : frT h (hp h2 (top + 1) (aJ v S.n (scG sA (u + 1)))) top x := fun a q1 q2 => by rw [hp_ne _ _ (by omega), f2 a q2]; exact f1 a q1 q2
        refine r_aload (pc := 74) (i := 6) (tL_areHits.at 39 rfl) rfl ?_
        refine r_iload (pc := 76) (i := 7) (tL_areHits.at 40 rfl) rfl ?_
        refine r_iload_n (pc := 78) (i := 3) (tL_areHits.at 41 rfl) rfl rfl ?_
        refine r_if_eq (pc := 79) 93 (tL_areHits.at 42 rfl) (by decide) (fun _ => ?_) (fun z => absurd rfl z)
        refine r_aload_n (pc := 93) (i := 1) (tL_areHits.at 49 rfl) rfl rfl ?_
        refine r_iload (pc := 94) (i := 7) (tL_areHits.at 50 rfl) rfl ?_
        refine r_iload_n (pc := 96) (i := 2) (tL_areHits.at 51 rfl) rfl rfl ?_
        refine r_iconst (pc := 97) (w := nI 1) (tL_areHits.at 52 rfl) (by decide) ?_
        refine r_callV (M' := mX10_hittingTime) (pc := 98) (tL_areHits.at 53 rfl) ml_L_64 rfl mw_X10_hittingTime ⟨by decide, by decide⟩ (K3.1.1) rfl rfl (c_hitT K3 z (by omega) (by omega) (by omega) (hw u hu hq) (hm u hu hq)) rfl rfl (Nat.le_of_ble_eq_true rfl) (Nat.le_of_ble_eq_true rfl) (Nat.le_of_ble_eq_true rfl) ?_
        rintro _ h4 top4 ⟨rfl, rfl, K4, f4⟩
        rw [show fp 1 (muA Z.2.1.W Z.2.1.n u t (stG Z.2.1.W Z.2.1.n)) (muB Z.2.1.W Z.2.1.n u t (stG Z.2.1.W Z.2.1.n)) = sB u from by rw [sBu, ← m2]; rfl]
        have g1 : h4 top = some (aZ v S.n (zF Q)) := by rw [f4 _ (by omega), hp_ne _ _ (by omega), f2 _ (by omega)]; exact e1
        have g2 : h4 (top + 1) = some (aJ v S.n (scG sA (u + 1))) := by rw [f4 _ (by omega)]; exact hp_eq _ _ _
        have g3 : h4 (top + 1 + 1) = some (aJ v S.n (scG sB u)) := by rw [f4 _ (by omega), hp_ne _ _ (by omega), f2 _ (by omega)]; exact e3
        refine r_last (pc := 101) (tL_areHits.at 54 rfl) g3 u rfl hu (Nat.le_trans (Nat.le_of_lt_succ (Nat.lt_succ_of_le hn)) (by omega)) ?_
        rw [scG_up]
        refine r_aload (pc := 102) (i := 6) (tL_areHits.at 55 rfl) rfl ?_
        refine r_iload (pc := 104) (i := 7) (tL_areHits.at 56 rfl) rfl ?_
        refine r_lald (pc := 106) (tL_areHits.at 57 rfl) (hp_eq _ _ _) (u) (rfl) (by omega) (by omega) ?_
        rw [scG_at (Nat.lt_succ_self u), sBu]
        refine r_lconst (pc := 107) (w := lI 1) (tL_areHits.at 58 rfl) (by decide) ?_
        refine r_lc_lt (pc := 108) 130 (tL_areHits.at 59 rfl) (tL_areHits.at 60 rfl) (by decide) (⟨by omega, by omega⟩) (⟨by omega, by omega⟩) (fun c => by omega) (fun _ => ?_)
        refine r_aload (pc := 112) (i := 5) (tL_areHits.at 61 rfl) rfl ?_
        refine r_iload (pc := 114) (i := 7) (tL_areHits.at 62 rfl) rfl ?_
        refine r_lald (pc := 116) (tL_areHits.at 63 rfl) ((hp_ne _ _ (by omega)).trans g2) (u) (rfl) (by omega) (by omega) ?_
        rw [scG_at (Nat.lt_succ_self u), sAu]
        refine r_aload (pc := 117) (i := 6) (tL_areHits.at 64 rfl) rfl ?_
        refine r_iload (pc := 119) (i := 7) (tL_areHits.at 65 rfl) rfl ?_
        refine r_lald (pc := 121) (tL_areHits.at 66 rfl) (hp_eq _ _ _) (u) (rfl) (by omega) (by omega) ?_
        rw [scG_at (Nat.lt_succ_self u), sBu]
        refine r_callS (M' := mL_divisor) (pc := 122) (tL_areHits.at 67 rfl) ml_L_48 rfl mw_L_divisor ⟨by decide, by decide⟩ (c_div 63 (An u) (Bn u) (by omega) m5 m4) rfl rfl (Nat.le_of_ble_eq_true rfl) (Nat.le_of_ble_eq_true rfl) (Nat.le_of_ble_eq_true rfl) ?_
        rintro _ _ _ ⟨rfl, rfl, rfl⟩
        rw [m6]
        refine r_lconst (pc := 125) (w := lI 1) (tL_areHits.at 68 rfl) (by decide) ?_
        refine r_lcT (pc := 126) 132 (tL_areHits.at 69 rfl) (tL_areHits.at 70 rfl) (by decide) ?_
        first | refine r_iincN (pc := 132) (tL_areHits.at 73 rfl) rfl (by decide) ?_ | refine r_iinc (pc := 132) (tL_areHits.at 73 rfl) rfl rfl (by decide) ?_
        refine r_goto (pc := 135) 26 (tL_areHits.at 74 rfl) (by decide) ?_
        exact ih _ (fun a q1 q2 => by rw [hp_ne _ _ (by omega), f4 a q2, hp_ne _ _ (by omega), f2 a q2]; exact f1 a q1 q2) (K4.upT (by omega)) ((hp_ne _ _ (by omega)).trans g1) ((hp_ne _ _ (by omega)).trans g2) (hp_eq _ _ _)
      · have hq : Q.testBit u = false := by cases q : Q.testBit u <;> simp_all
        refine r_goto (pc := 43) 132 (tL_areHits.at 22 rfl) (by decide) ?_
        first | refine r_iincN (pc := 132) (tL_areHits.at 73 rfl) rfl (by decide) ?_ | refine r_iinc (pc := 132) (tL_areHits.at 73 rfl) rfl rfl (by decide) ?_
        refine r_goto (pc := 135) 26 (tL_areHits.at 74 rfl) (by decide) ?_
        rw [scG_no (show sA u = 0 from by rw [← hsA]; exact if_neg (by rw [hq]; decide))] at e2
        rw [scG_no (show sB u = 0 from by rw [← hsB]; exact if_neg (by rw [hq]; decide))] at e3
        exact ih h1 f1 K1 e1 e2 e3
  exact key 0 (by omega) _ f0 K0 (by rw [hp_ne _ _ (by omega), hp_ne _ _ (by omega)]; exact hp_eq _ _ _) (by rw [hp_ne _ _ (by omega), scG_0]; exact hp_eq _ _ _) (by rw [scG_0]; exact hp_eq _ _ _)
theorem c_hits1 {v : Ev} {h : Hp} {top y x t cn : Nat} {S : LT} {Z : CS} {cc : Nat → Int} {An Bn : Nat → Nat} (L : isLw v h y S) (K : okX v h x Z) (z : okZ Z) (hyt : y + 18 ≤ top) (hxt : x + 96 ≤ top) (hxy : y + 18 ≤ x ∨ x + 96 ≤ y) (ok : okS9 S) (hG : Z.2.1.n = S.n) (ht : t < S.n) (hl : okL Z.2.1) (hcd : okC v h x Z.2.1 cn cc) (hF : Z.2.1.F < top)
    (hw : ∀ u, u < S.n → (riR S.W S.n t S.n).testBit u = true → (rch Z.2.1.W Z.2.1.n u).testBit t = true)
    (hm : ∀ u, u < S.n → (riR S.W S.n t S.n).testBit u = true → okM Z.2.1.W Z.2.1.n u t (csG Z.2.1.W (tbl Z.2.1 cn cc) Z.2.1.n))
    (hmu : ∀ u, u < S.n → (riR S.W S.n t S.n).testBit u = true → muA Z.2.1.W Z.2.1.n u t (csG Z.2.1.W (tbl Z.2.1 cn cc) Z.2.1.n) = (An u : Nat) ∧ muB Z.2.1.W Z.2.1.n u t (csG Z.2.1.W (tbl Z.2.1 cn cc) Z.2.1.n) = (Bn u : Nat) ∧ 1 ≤ Bn u ∧ Bn u ≤ 9223372036854775807 ∧ An u ≤ 9223372036854775807 ∧ Nat.gcd (An u) (Bn u) = 1)
    (hA0 : An t = 0)
    (hc : ∀ u, u ≤ S.n → lcC Bn (fun u => (riR S.W S.n t S.n).testBit u) u ≤ 9223372036854775807)
    (eq : ∀ w, w < S.n → (riR S.W S.n t S.n).testBit w = true → (2 ^ t).testBit w = false → smI S.W S.C 1 (lcC Bn (fun u => (riR S.W S.n t S.n).testBit u) S.n) (sV (fun u => (An u : Nat)) Bn (fun u => (riR S.W S.n t S.n).testBit u) (lcC Bn (fun u => (riR S.W S.n t S.n).testBit u) S.n)) w S.n = (S.D w : Nat) * sV (fun u => (An u : Nat)) Bn (fun u => (riR S.W S.n t S.n).testBit u) (lcC Bn (fun u => (riR S.W S.n t S.n).testBit u) S.n) w) :
    Cal v mL_areHits 129 5 30 [.ref y, .ref x, .int (nI t), .int (nI 1)] h top (fun r h' top' => r = some (.int (nI 1)) ∧ okX v h' x Z ∧ top ≤ top' ∧ frT h h' top x) noX := by
  have okk := ok
  obtain ⟨hn, hW, hC, hD⟩ := ok
  have hself : (riR S.W S.n t S.n).testBit t = true := riR_in _
  generalize hQ : riR S.W S.n t S.n = Q at *
  refine Cal.ofJ (by decide +kernel) rfl (Nat.le_of_ble_eq_true rfl) fun hz0 => ?_
  refine r_ls [some (.ref y), some (.ref x), some (.int (nI t)), some (.int (nI 1)), none, none, none, none] rfl ?_
  refine r_aload_n (pc := 0) (i := 0) (tL_areHits.at 0 rfl) rfl rfl ?_
  refine r_iload_n (pc := 1) (i := 2) (tL_areHits.at 1 rfl) rfl rfl ?_
  refine r_callV (M' := mL_reached) (pc := 2) (tL_areHits.at 2 rfl) ml_L_56 rfl mw_L_reached ⟨by decide, by decide⟩ (L.1) rfl rfl (c_reached L hyt hn hW ht) rfl rfl (Nat.le_of_ble_eq_true rfl) (Nat.le_of_ble_eq_true rfl) (Nat.le_of_ble_eq_true rfl) ?_
  rintro _ _ _ ⟨rfl, rfl, rfl⟩
  rw [hQ]
  refine r_astore (pc := 5) (i := 4) (tL_areHits.at 3 rfl) (by decide) ?_
  refine r_aload_n (pc := 7) (i := 0) (tL_areHits.at 4 rfl) rfl rfl ?_
  refine r_get (pc := 8) (tL_areHits.at 5 rfl) gf_L_52 ((hp_ne _ _ (by omega)).trans L.1) rfl ?_
  refine r_newaJ (pc := 11) S.n (tL_areHits.at 6 rfl) rfl (by omega) ac_long (Nat.le_of_ble_eq_true rfl) (by show 0 + 6 + S.n ≤ 30; omega) (fun fr11 => ?_)
  refine r_widen (c2 := 2) (s2 := 12) (by omega) (by omega) ?_
  refine r_astore (pc := 13) (i := 5) (tL_areHits.at 7 rfl) (by decide) ?_
  refine r_aload_n (pc := 15) (i := 0) (tL_areHits.at 8 rfl) rfl rfl ?_
  refine r_get (pc := 16) (tL_areHits.at 9 rfl) gf_L_52 ((hp_ne _ _ (by omega)).trans ((hp_ne _ _ (by omega)).trans L.1)) rfl ?_
  refine r_newaJ (pc := 19) S.n (tL_areHits.at 10 rfl) rfl (by omega) ac_long (Nat.le_of_ble_eq_true rfl) (by show 12 + S.n ≤ 30; omega) (fun fr19 => ?_)
  refine r_widen (c2 := 3) (s2 := 18) (by omega) (by omega) ?_
  refine r_astore (pc := 21) (i := 6) (tL_areHits.at 11 rfl) (by decide) ?_
  refine r_iconst (pc := 23) (w := nI 0) (tL_areHits.at 12 rfl) (by decide) ?_
  refine r_istore (pc := 24) (i := 7) (tL_areHits.at 13 rfl) (by decide) ?_
  have f0 : frT h (hp (hp (hp h top (aZ v S.n (zF Q))) (top + 1) (aJ v S.n (fun _ => 0))) (top + 1 + 1) (aJ v S.n (fun _ => 0))) top x := fun a q1 q2 => by rw [hp_ne _ _ (by omega), hp_ne _ _ (by omega), hp_ne _ _ (by omega)]
  have K0 : okX v (hp (hp (hp h top (aZ v S.n (zF Q))) (top + 1) (aJ v S.n (fun _ => 0))) (top + 1 + 1) (aJ v S.n (fun _ => 0))) x Z := ((K.upT hxt).upT (by omega)).upT (by omega)
  generalize hsA : (fun u => if Q.testBit u = true then ((An u : Nat) : Int) else 0) = sA
  generalize hsB : (fun u => if Q.testBit u = true then ((Bn u : Nat) : Int) else 0) = sB
  have key : ∀ u, u ≤ S.n → ∀ h1 : Hp, frT h h1 top x → okX v h1 x Z → h1 top = some (aZ v S.n (zF Q)) → h1 (top + 1) = some (aJ v S.n (scG sA u)) → h1 (top + 1 + 1) = some (aJ v S.n (scG sB u)) →
      J v mL_areHits (rmOf 129 5 30) (KM v (fun r h' top' => r = some (.int (nI 1)) ∧ okX v h' x Z ∧ top ≤ top' ∧ frT h h' top x) noX 5 30) top 3 18 h1 (top + 1 + 1 + 1) 26 [some (.ref y), some (.ref x), some (.int (nI t)), some (.int (nI 1)), some (.ref top), some (.ref (top + 1)), some (.ref (top + 1 + 1)), some (.int (nI u))] [] := by
    refine down ?_ ?_
    · intro h1 f1 K1 e1 e2 e3
      have L1 := L.fr f1 hyt hxy
      refine r_iload (pc := 26) (i := 7) (tL_areHits.at 14 rfl) rfl ?_
      refine r_aload_n (pc := 28) (i := 0) (tL_areHits.at 15 rfl) rfl rfl ?_
      refine r_get (pc := 29) (tL_areHits.at 16 rfl) gf_L_52 (L1.1) rfl ?_
      refine r_icmp_geN (pc := 32) 138 (tL_areHits.at 17 rfl) (by decide) (by omega) (by omega) (fun _ => ?_) (fun c => by omega)
      refine r_aload_n (pc := 138) (i := 0) (tL_areHits.at 75 rfl) rfl rfl ?_
      refine r_get (pc := 139) (tL_areHits.at 76 rfl) gf_L_52 (L1.1) rfl ?_
      refine r_newaZ (pc := 142) S.n (tL_areHits.at 77 rfl) rfl (by omega) ac_boolean (Nat.le_of_ble_eq_true rfl) (by show 18 + S.n ≤ 30; omega) (fun fr142 => ?_)
      refine r_widen (c2 := 4) (s2 := 24) (by omega) (by omega) ?_
      refine r_astore (pc := 144) (i := 7) (tL_areHits.at 78 rfl) (by decide) ?_
      refine r_aload (pc := 146) (i := 7) (tL_areHits.at 79 rfl) rfl ?_
      refine r_iload_n (pc := 148) (i := 2) (tL_areHits.at 80 rfl) rfl rfl ?_
      refine r_iconst (pc := 149) (w := nI 1) (tL_areHits.at 81 rfl) (by decide) ?_
      refine r_zast (pc := 150) (tL_areHits.at 82 rfl) (hp_eq _ _ _) (t) (rfl) (by omega) (by omega) ?_
      rw [zF_st, hp_hp]
      refine r_aload (pc := 151) (i := 5) (tL_areHits.at 83 rfl) rfl ?_
      refine r_iload_n (pc := 153) (i := 2) (tL_areHits.at 84 rfl) rfl rfl ?_
      refine r_lald (pc := 154) (tL_areHits.at 85 rfl) ((hp_ne _ _ (by omega)).trans e2) (t) (rfl) (by omega) (by omega) ?_
      rw [scG_at ht, show sA t = 0 from by rw [← hsA]; simp only [hself, if_true, hA0]; rfl]
      refine r_lconst (pc := 155) (w := lI 0) (tL_areHits.at 86 rfl) (by decide) ?_
      refine r_lcN (pc := 156) 188 (tL_areHits.at 87 rfl) (tL_areHits.at 88 rfl) (by decide) ?_
      refine r_aload_n (pc := 160) (i := 0) (tL_areHits.at 89 rfl) rfl rfl ?_
      refine r_aload (pc := 161) (i := 5) (tL_areHits.at 90 rfl) rfl ?_
      refine r_aload (pc := 163) (i := 6) (tL_areHits.at 91 rfl) rfl ?_
      refine r_aload (pc := 165) (i := 7) (tL_areHits.at 92 rfl) rfl ?_
      refine r_aload (pc := 167) (i := 4) (tL_areHits.at 93 rfl) rfl ?_
      refine r_iload_n (pc := 169) (i := 3) (tL_areHits.at 94 rfl) rfl rfl ?_
      refine r_if_eq (pc := 170) 177 (tL_areHits.at 95 rfl) (by decide) (fun z => absurd z (by decide)) (fun _ => ?_)
      refine r_iconst (pc := 173) (w := nI 1) (tL_areHits.at 96 rfl) (by decide) ?_
      refine r_goto (pc := 174) 178 (tL_areHits.at 97 rfl) (by decide) ?_
      refine r_callV (M' := mL_isMean) (pc := 178) (tL_areHits.at 99 rfl) ml_L_67 rfl mw_L_isMean ⟨by decide, by decide⟩ ((hp_ne _ _ (by omega)).trans L1.1) rfl rfl (c_isMean (A := fun u => ((An u : Nat) : Int)) (B := Bn) (kn := fun u => (2 ^ t).testBit u) (th := fun u => Q.testBit u) (L1.up (by omega)) (by omega) okk ((hp_ne _ _ (by omega)).trans e2) ((hp_ne _ _ (by omega)).trans e3) (hp_eq _ _ _) ((hp_ne _ _ (by omega)).trans e1)
        (fun u hu hq => by rw [scG_at hu, ← hsA]; exact congrArg lI (if_pos hq)) (fun u hu hq => by rw [scG_at hu, ← hsB]; exact congrArg lI (if_pos hq)) (fun u hu => rfl) (fun u hu => rfl) (by omega) (fun u hu hq => ⟨(hmu u hu hq).2.2.1, (hmu u hu hq).2.2.2.1⟩) hc eq) rfl rfl (Nat.le_of_ble_eq_true rfl) (Nat.le_of_ble_eq_true rfl) (Nat.le_of_ble_eq_true rfl) ?_
      rintro _ h3 top3 ⟨rfl, rfl, f3⟩
      refine r_if_eq (pc := 181) 188 (tL_areHits.at 100 rfl) (by decide) (fun z => absurd z (by decide)) (fun _ => ?_)
      refine r_iconst (pc := 184) (w := nI 1) (tL_areHits.at 101 rfl) (by decide) ?_
      refine r_goto (pc := 185) 189 (tL_areHits.at 102 rfl) (by decide) ?_
      refine r_zret (pc := 189) (tL_areHits.at 104 rfl) rfl rfl (Nat.le_of_ble_eq_true rfl) (Nat.le_of_ble_eq_true rfl) ?_
      refine ⟨rfl, K1.frame fun a q1 q2 => ?_, by omega, fun a q1 q2 => ?_⟩
      · rw [f3 a (by omega), hp_ne _ _ (by omega)]
      · rw [f3 a (by omega), hp_ne _ _ (by omega)]
        exact f1 a q1 q2
    · intro u hu ih h1 f1 K1 e1 e2 e3
      have L1 := L.fr f1 hyt hxy
      refine r_iload (pc := 26) (i := 7) (tL_areHits.at 14 rfl) rfl ?_
      refine r_aload_n (pc := 28) (i := 0) (tL_areHits.at 15 rfl) rfl rfl ?_
      refine r_get (pc := 29) (tL_areHits.at 16 rfl) gf_L_52 (L1.1) rfl ?_
      refine r_icmp_geN (pc := 32) 138 (tL_areHits.at 17 rfl) (by decide) (by omega) (by omega) (fun c => by omega) (fun _ => ?_)
      refine r_aload (pc := 35) (i := 4) (tL_areHits.at 18 rfl) rfl ?_
      refine r_iload (pc := 37) (i := 7) (tL_areHits.at 19 rfl) rfl ?_
      refine r_zald (pc := 39) (tL_areHits.at 20 rfl) (e1) (u) (rfl) (by omega) (by omega) ?_
      have htb : Bool.toNat (Q.testBit u) ≤ 1 := Bool.toNat_le _
      refine r_if_neN (pc := 40) 46 (tL_areHits.at 21 rfl) (by decide) (show Bool.toNat (Q.testBit u) < 2147483648 by omega) (fun c1 => ?_) (fun c1 => ?_)
      · have hq : Q.testBit u = true := by cases q : Q.testBit u <;> simp_all
        obtain ⟨m1, m2, m3, m4, m5, m6⟩ := hmu u hu hq
        have sAu : sA u = ((An u : Nat) : Int) := by rw [← hsA]; exact if_pos hq
        have sBu : sB u = ((Bn u : Nat) : Int) := by rw [← hsB]; exact if_pos hq
        refine r_aload (pc := 46) (i := 5) (tL_areHits.at 23 rfl) rfl ?_
        refine r_iload (pc := 48) (i := 7) (tL_areHits.at 24 rfl) rfl ?_
        refine r_iload_n (pc := 50) (i := 3) (tL_areHits.at 25 rfl) rfl rfl ?_
        refine r_if_eq (pc := 51) 65 (tL_areHits.at 26 rfl) (by decide) (fun z => absurd z (by decide)) (fun _ => ?_)
        refine r_aload_n (pc := 54) (i := 1) (tL_areHits.at 27 rfl) rfl rfl ?_
        refine r_iload (pc := 55) (i := 7) (tL_areHits.at 28 rfl) rfl ?_
        refine r_iload_n (pc := 57) (i := 2) (tL_areHits.at 29 rfl) rfl rfl ?_
        refine r_iconst (pc := 58) (w := nI 0) (tL_areHits.at 30 rfl) (by decide) ?_
        refine r_callV (M' := mX10_hittingCost) (pc := 59) (tL_areHits.at 31 rfl) ml_L_60 rfl mw_X10_hittingCost ⟨by decide, by decide⟩ (K1.1.1) rfl rfl (c_hitC K1 z hl (hcd.fr f1 hF) (by omega) (by omega) (by omega) (hw u hu hq) (hm u hu hq)) rfl rfl (Nat.le_of_ble_eq_true rfl) (Nat.le_of_ble_eq_true rfl) (Nat.le_of_ble_eq_true rfl) ?_
        rintro _ h2 top2 ⟨rfl, rfl, K2, f2⟩
        rw [show fp 0 (muA Z.2.1.W Z.2.1.n u t (csG Z.2.1.W (tbl Z.2.1 cn cc) Z.2.1.n)) (muB Z.2.1.W Z.2.1.n u t (csG Z.2.1.W (tbl Z.2.1 cn cc) Z.2.1.n)) = sA u from by rw [sAu, ← m1]; rfl]
        refine r_goto (pc := 62) 73 (tL_areHits.at 32 rfl) (by decide) ?_
        refine r_last (pc := 73) (tL_areHits.at 38 rfl) ((f2 _ (by omega)).trans e2) u rfl hu (Nat.le_trans (Nat.le_of_lt_succ (Nat.lt_succ_of_le hn)) (by omega)) ?_
        rw [scG_up]
        have K3 := K2.upT (a := top + 1) (e := aJ v S.n (scG sA (u + 1))) (by omega)
        have f3 : frT h (hp h2 (top + 1) (aJ v S.n (scG sA (u + 1)))) top x := fun a q1 q2 => by rw [hp_ne _ _ (by omega), f2 a q2]; exact f1 a q1 q2
        refine r_aload (pc := 74) (i := 6) (tL_areHits.at 39 rfl) rfl ?_
        refine r_iload (pc := 76) (i := 7) (tL_areHits.at 40 rfl) rfl ?_
        refine r_iload_n (pc := 78) (i := 3) (tL_areHits.at 41 rfl) rfl rfl ?_
        refine r_if_eq (pc := 79) 93 (tL_areHits.at 42 rfl) (by decide) (fun z => absurd z (by decide)) (fun _ => ?_)
        refine r_aload_n (pc := 82) (i := 1) (tL_areHits.at 43 rfl) rfl rfl ?_
        refine r_iload (pc := 83) (i := 7) (tL_areHits.at 44 rfl) rfl ?_
        refine r_iload_n (pc := 85) (i := 2) (tL_areHits.at 45 rfl) rfl rfl ?_
        refine r_iconst (pc := 86) (w := nI 1) (tL_areHits.at 46 rfl) (by decide) ?_
        refine r_callV (M' := mX10_hittingCost) (pc := 87) (tL_areHits.at 47 rfl) ml_L_60 rfl mw_X10_hittingCost ⟨by decide, by decide⟩ (K3.1.1) rfl rfl (c_hitC K3 z hl (hcd.fr f3 hF) (by omega) (by omega) (by omega) (hw u hu hq) (hm u hu hq)) rfl rfl (Nat.le_of_ble_eq_true rfl) (Nat.le_of_ble_eq_true rfl) (Nat.le_of_ble_eq_true rfl) ?_
        rintro _ h4 top4 ⟨rfl, rfl, K4, f4⟩
        rw [show fp 1 (muA Z.2.1.W Z.2.1.n u t (csG Z.2.1.W (tbl Z.2.1 cn cc) Z.2.1.n)) (muB Z.2.1.W Z.2.1.n u t (csG Z.2.1.W (tbl Z.2.1 cn cc) Z.2.1.n)) = sB u from by rw [sBu, ← m2]; rfl]
        refine r_goto (pc := 90) 101 (tL_areHits.at 48 rfl) (by decide) ?_
        have g1 : h4 top = some (aZ v S.n (zF Q)) := by rw [f4 _ (by omega), hp_ne _ _ (by omega), f2 _ (by omega)]; exact e1
        have g2 : h4 (top + 1) = some (aJ v S.n (scG sA (u + 1))) := by rw [f4 _ (by omega)]; exact hp_eq _ _ _
        have g3 : h4 (top + 1 + 1) = some (aJ v S.n (scG sB u)) := by rw [f4 _ (by omega), hp_ne _ _ (by omega), f2 _ (by omega)]; exact e3
        refine r_last (pc := 101) (tL_areHits.at 54 rfl) g3 u rfl hu (Nat.le_trans (Nat.le_of_lt_succ (Nat.lt_succ_of_le hn)) (by omega)) ?_
        rw [scG_up]
        refine r_aload (pc := 102) (i := 6) (tL_areHits.at 55 rfl) rfl ?_
        refine r_iload (pc := 104) (i := 7) (tL_areHits.at 56 rfl) rfl ?_
        refine r_lald (pc := 106) (tL_areHits.at 57 rfl) (hp_eq _ _ _) (u) (rfl) (by omega) (by omega) ?_
        rw [scG_at (Nat.lt_succ_self u), sBu]
        refine r_lconst (pc := 107) (w := lI 1) (tL_areHits.at 58 rfl) (by decide) ?_
        refine r_lc_lt (pc := 108) 130 (tL_areHits.at 59 rfl) (tL_areHits.at 60 rfl) (by decide) (⟨by omega, by omega⟩) (⟨by omega, by omega⟩) (fun c => by omega) (fun _ => ?_)
        refine r_aload (pc := 112) (i := 5) (tL_areHits.at 61 rfl) rfl ?_
        refine r_iload (pc := 114) (i := 7) (tL_areHits.at 62 rfl) rfl ?_
        refine r_lald (pc := 116) (tL_areHits.at 63 rfl) ((hp_ne _ _ (by omega)).trans g2) (u) (rfl) (by omega) (by omega) ?_
        rw [scG_at (Nat.lt_succ_self u), sAu]
        refine r_aload (pc := 117) (i := 6) (tL_areHits.at 64 rfl) rfl ?_
        refine r_iload (pc := 119) (i := 7) (tL_areHits.at 65 rfl) rfl ?_
        refine r_lald (pc := 121) (tL_areHits.at 66 rfl) (hp_eq _ _ _) (u) (rfl) (by omega) (by omega) ?_
        rw [scG_at (Nat.lt_succ_self u), sBu]
        refine r_callS (M' := mL_divisor) (pc := 122) (tL_areHits.at 67 rfl) ml_L_48 rfl mw_L_divisor ⟨by decide, by decide⟩ (c_div 63 (An u) (Bn u) (by omega) m5 m4) rfl rfl (Nat.le_of_ble_eq_true rfl) (Nat.le_of_ble_eq_true rfl) (Nat.le_of_ble_eq_true rfl) ?_
        rintro _ _ _ ⟨rfl, rfl, rfl⟩
        rw [m6]
        refine r_lconst (pc := 125) (w := lI 1) (tL_areHits.at 68 rfl) (by decide) ?_
        refine r_lcT (pc := 126) 132 (tL_areHits.at 69 rfl) (tL_areHits.at 70 rfl) (by decide) ?_
        first | refine r_iincN (pc := 132) (tL_areHits.at 73 rfl) rfl (by decide) ?_ | refine r_iinc (pc := 132) (tL_areHits.at 73 rfl) rfl rfl (by decide) ?_
        refine r_goto (pc := 135) 26 (tL_areHits.at 74 rfl) (by decide) ?_
        exact ih _ (fun a q1 q2 => by rw [hp_ne _ _ (by omega), f4 a q2, hp_ne _ _ (by omega), f2 a q2]; exact f1 a q1 q2) (K4.upT (by omega)) ((hp_ne _ _ (by omega)).trans g1) ((hp_ne _ _ (by omega)).trans g2) (hp_eq _ _ _)
      · have hq : Q.testBit u = false := by cases q : Q.testBit u <;> simp_all
        refine r_goto (pc := 43) 132 (tL_areHits.at 22 rfl) (by decide) ?_
        first | refine r_iincN (pc := 132) (tL_areHits.at 73 rfl) rfl (by decide) ?_ | refine r_iinc (pc := 132) (tL_areHits.at 73 rfl) rfl rfl (by decide) ?_
        refine r_goto (pc := 135) 26 (tL_areHits.at 74 rfl) (by decide) ?_
        rw [scG_no (show sA u = 0 from by rw [← hsA]; exact if_neg (by rw [hq]; decide))] at e2
        rw [scG_no (show sB u = 0 from by rw [← hsB]; exact if_neg (by rw [hq]; decide))] at e3
        exact ih h1 f1 K1 e1 e2 e3
  exact key 0 (by omega) _ f0 K0 (by rw [hp_ne _ _ (by omega), hp_ne _ _ (by omega)]; exact hp_eq _ _ _) (by rw [hp_ne _ _ (by omega), scG_0]; exact hp_eq _ _ _) (by rw [scG_0]; exact hp_eq _ _ _)

