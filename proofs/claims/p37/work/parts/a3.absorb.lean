/-! ===== the law: areAbsorptions ===== -/
/-- does the walk of v meet one of ab among the first a vertices -/
def orA (Q ab : Nat) : Nat → Bool
  | 0 => false
  | a + 1 => orA Q ab a || (Q.testBit a && ab.testBit a)
def bG (p : Nat → Bool) (u0 : Nat) : Nat → Int32 := fun u => if u < u0 then nI (Bool.toNat (p u)) else 0
def bH (p : Nat → Bool) (u0 : Nat) (b : Bool) : Nat → Int32 := fun u => if u < u0 then nI (Bool.toNat (p u)) else if u = u0 then nI (Bool.toNat b) else 0
theorem bG_at {p : Nat → Bool} {u u0 : Nat} (h : u < u0) : bG p u0 u = nI (Bool.toNat (p u)) := if_pos h
theorem bG_0 {p : Nat → Bool} : bG p 0 = fun _ => 0 := by
  funext k
  exact if_neg (by omega)
theorem bH_f {p : Nat → Bool} {u : Nat} : bG p u = bH p u false := by
  funext k
  unfold bG bH
  split
  · rfl
  · split
    · rfl
    · rfl
theorem bH_t {p : Nat → Bool} {u : Nat} : bH p u (p u) = bG p (u + 1) := by
  funext k
  unfold bG bH
  by_cases e : k = u
  · rw [if_neg (by omega), if_pos e, if_pos (by omega), e]
  · by_cases c : k < u
    · rw [if_pos c, if_pos (by omega)]
    · rw [if_neg c, if_neg e, if_neg (by omega)]
theorem bH_at {p : Nat → Bool} {u : Nat} {b : Bool} : bH p u b u = nI (Bool.toNat b) := by
  unfold bH
  rw [if_neg (by omega), if_pos rfl]
theorem nar_or0 (b : Bool) : vp_nar .boolean (nI (Bool.toNat b) ||| nI 0) = nI (Bool.toNat (b || false)) := by cases b <;> decide
theorem nar_or1 (b : Bool) : vp_nar .boolean (nI (Bool.toNat b) ||| nI 1) = nI (Bool.toNat (b || true)) := by cases b <;> decide
theorem nar_b (b : Bool) : vp_nar .boolean (nI (Bool.toNat b)) = nI (Bool.toNat b) := by cases b <;> decide
theorem bH_up {p : Nat → Bool} {u : Nat} {b c : Bool} {x : Int32} (hx : x = nI (Bool.toNat c)) : upd (bH p u b) u x = bH p u c := by
  funext k
  unfold upd bH
  by_cases e : k = u
  · rw [if_pos e, e, if_neg (by omega), if_pos rfl, hx]
  · rw [if_neg e, if_neg e, if_neg e]
theorem bG_up {p : Nat → Bool} {u : Nat} {x : Int32} (hx : x = nI (Bool.toNat (p u))) : upd (bG p u) u x = bG p (u + 1) := by
  rw [bH_f, bH_up hx, bH_t]
theorem c_absL {v : Ev} {h : Hp} {top y x t : Nat} {S : LT} {Z : CS} {An Bn : Nat → Nat} {th : Nat → Bool} (L : isLw v h y S) (K : okX v h x Z) (z : okZ Z) (hyt : y + 18 ≤ top) (hxt : x + 96 ≤ top) (hxy : y + 18 ≤ x ∨ x + 96 ≤ y) (ok : okS9 S) (ha : S.a < 64) (hG : Z.2.1.n = S.n) (ht : t < S.n) (hat : Z.2.1.a.testBit t = true)
    (hth : ∀ u, u < S.n → th u = orA (riR S.W S.n u S.n) S.a S.n)
    (hw : ∀ u, u < S.n → th u = true → rch Z.2.1.W Z.2.1.n u &&& Z.2.1.a ≠ 0)
    (hm : ∀ u, u < S.n → th u = true → Z.2.1.a.testBit u = false → okA (abM Z.2.1.W Z.2.1.n Z.2.1.a u (atG Z.2.1.W t)) (abK Z.2.1.W Z.2.1.n Z.2.1.a u))
    (hmu : ∀ u, u < S.n → th u = true → aqA Z.2.1.W Z.2.1.n Z.2.1.a u t = (An u : Nat) ∧ aqB Z.2.1.W Z.2.1.n Z.2.1.a u t = (Bn u : Nat) ∧ 1 ≤ Bn u ∧ Bn u ≤ 9223372036854775807)
    (hA0 : ∀ u, u < S.n → th u = true → S.a.testBit u = true → An u = if u = t then 1 else 0)
    (hc : ∀ u, u ≤ S.n → lcC Bn th u ≤ 9223372036854775807)
    (eq : ∀ w, w < S.n → th w = true → S.a.testBit w = false → smI S.W S.C 2 (lcC Bn th S.n) (sV (fun u => (An u : Nat)) Bn th (lcC Bn th S.n)) w S.n = (S.D w : Nat) * sV (fun u => (An u : Nat)) Bn th (lcC Bn th S.n) w) :
    Cal v mL_areAbsorptions 129 11 66 [.ref y, .ref x, .int (nI t)] h top (fun r h' top' => r = some (.int (nI 1)) ∧ okX v h' x Z ∧ top ≤ top' ∧ frT h h' top x) noX := by
  have okk := ok
  obtain ⟨hn, hW, hC, hD⟩ := ok
  have hN : S.n ≤ 2147483647 := by omega
  refine Cal.ofJ (by decide +kernel) rfl (Nat.le_of_ble_eq_true rfl) fun hz0 => ?_
  refine r_ls [some (.ref y), some (.ref x), some (.int (nI t)), none, none, none, none, none, none, none] rfl ?_
  refine r_aload_n (pc := 0) (i := 0) (tL_areAbsorptions.at 0 rfl) rfl rfl ?_
  refine r_get (pc := 1) (tL_areAbsorptions.at 1 rfl) gf_L_52 (L.1) rfl ?_
  refine r_newaZ (pc := 4) S.n (tL_areAbsorptions.at 2 rfl) rfl (by omega) ac_boolean (Nat.le_of_ble_eq_true rfl) (by show 0 + S.n ≤ 66; omega) (fun fr4 => ?_)
  refine r_widen (c2 := 1) (s2 := 6) (by omega) (by omega) ?_
  refine r_astore_n (pc := 6) (i := 3) (tL_areAbsorptions.at 3 rfl) rfl (by decide) ?_
  refine r_aload_n (pc := 7) (i := 0) (tL_areAbsorptions.at 4 rfl) rfl rfl ?_
  refine r_get (pc := 8) (tL_areAbsorptions.at 5 rfl) gf_L_52 ((hp_ne _ _ (by omega)).trans L.1) rfl ?_
  refine r_newaZ (pc := 11) S.n (tL_areAbsorptions.at 6 rfl) rfl (by omega) ac_boolean (Nat.le_of_ble_eq_true rfl) (by show 6 + S.n ≤ 66; omega) (fun fr11 => ?_)
  refine r_widen (c2 := 2) (s2 := 12) (by omega) (by omega) ?_
  refine r_astore (pc := 13) (i := 4) (tL_areAbsorptions.at 7 rfl) (by decide) ?_
  refine r_aload_n (pc := 15) (i := 0) (tL_areAbsorptions.at 8 rfl) rfl rfl ?_
  refine r_get (pc := 16) (tL_areAbsorptions.at 9 rfl) gf_L_52 ((hp_ne _ _ (by omega)).trans ((hp_ne _ _ (by omega)).trans L.1)) rfl ?_
  refine r_newaJ (pc := 19) S.n (tL_areAbsorptions.at 10 rfl) rfl (by omega) ac_long (Nat.le_of_ble_eq_true rfl) (by show 12 + S.n ≤ 66; omega) (fun fr19 => ?_)
  refine r_widen (c2 := 3) (s2 := 18) (by omega) (by omega) ?_
  refine r_astore (pc := 21) (i := 5) (tL_areAbsorptions.at 11 rfl) (by decide) ?_
  refine r_aload_n (pc := 23) (i := 0) (tL_areAbsorptions.at 12 rfl) rfl rfl ?_
  refine r_get (pc := 24) (tL_areAbsorptions.at 13 rfl) gf_L_52 ((hp_ne _ _ (by omega)).trans ((hp_ne _ _ (by omega)).trans ((hp_ne _ _ (by omega)).trans L.1))) rfl ?_
  refine r_newaJ (pc := 27) S.n (tL_areAbsorptions.at 14 rfl) rfl (by omega) ac_long (Nat.le_of_ble_eq_true rfl) (by show 18 + S.n ≤ 66; omega) (fun fr27 => ?_)
  refine r_widen (c2 := 4) (s2 := 24) (by omega) (by omega) ?_
  refine r_astore (pc := 29) (i := 6) (tL_areAbsorptions.at 15 rfl) (by decide) ?_
  refine r_iconst (pc := 31) (w := nI 0) (tL_areAbsorptions.at 16 rfl) (by decide) ?_
  refine r_istore (pc := 32) (i := 7) (tL_areAbsorptions.at 17 rfl) (by decide) ?_
  generalize hsA : (fun u => if th u = true then ((An u : Nat) : Int) else 0) = sA
  generalize hsB : (fun u => if th u = true then ((Bn u : Nat) : Int) else 0) = sB
  have key : ∀ u, u ≤ S.n → ∀ h1 : Hp, frT h h1 top x → okX v h1 x Z → h1 top = some (aZ v S.n (bG th u)) → h1 (top + 1) = some (aZ v S.n (bG (fun k => S.a.testBit k) u)) → h1 (top + 1 + 1) = some (aJ v S.n (scG sA u)) → h1 (top + 1 + 1 + 1) = some (aJ v S.n (scG sB u)) →
      J v mL_areAbsorptions (rmOf 129 11 66) (KM v (fun r h' top' => r = some (.int (nI 1)) ∧ okX v h' x Z ∧ top ≤ top' ∧ frT h h' top x) noX 11 66) top (4 + u) (24 + 6 * u) h1 (top + 4 + u) 34 [some (.ref y), some (.ref x), some (.int (nI t)), some (.ref top), some (.ref (top + 1)), some (.ref (top + 1 + 1)), some (.ref (top + 1 + 1 + 1)), some (.int (nI u)), none, none] [] := by
    refine down ?_ ?_
    · intro h1 f1 K1 e1 e2 e3 e4
      have L1 := L.fr f1 hyt hxy
      refine r_iload (pc := 34) (i := 7) (tL_areAbsorptions.at 18 rfl) rfl ?_
      refine r_aload_n (pc := 36) (i := 0) (tL_areAbsorptions.at 19 rfl) rfl rfl ?_
      refine r_get (pc := 37) (tL_areAbsorptions.at 20 rfl) gf_L_52 (L1.1) rfl ?_
      refine r_icmp_geN (pc := 40) 181 (tL_areAbsorptions.at 21 rfl) (by decide) (by omega) (by omega) (fun _ => ?_) (fun c => by omega)
      refine r_aload_n (pc := 181) (i := 0) (tL_areAbsorptions.at 97 rfl) rfl rfl ?_
      refine r_aload (pc := 182) (i := 5) (tL_areAbsorptions.at 98 rfl) rfl ?_
      refine r_aload (pc := 184) (i := 6) (tL_areAbsorptions.at 99 rfl) rfl ?_
      refine r_aload (pc := 186) (i := 4) (tL_areAbsorptions.at 100 rfl) rfl ?_
      refine r_aload_n (pc := 188) (i := 3) (tL_areAbsorptions.at 101 rfl) rfl rfl ?_
      refine r_iconst (pc := 189) (w := nI 2) (tL_areAbsorptions.at 102 rfl) (by decide) ?_
      refine r_callV (M' := mL_isMean) (pc := 190) (tL_areAbsorptions.at 103 rfl) ml_L_67 rfl mw_L_isMean ⟨by decide, by decide⟩ L1.1 rfl rfl (c_isMean (A := fun u => ((An u : Nat) : Int)) (B := Bn) (kn := fun u => S.a.testBit u) (th := th) L1 (by omega) okk e3 e4 e2 e1
        (fun u hu hq => by rw [scG_at hu, ← hsA]; exact congrArg lI (if_pos hq)) (fun u hu hq => by rw [scG_at hu, ← hsB]; exact congrArg lI (if_pos hq)) (fun u hu => bG_at hu) (fun u hu => bG_at hu) (by omega) (fun u hu hq => ⟨(hmu u hu hq).2.2.1, (hmu u hu hq).2.2.2⟩) hc eq) rfl rfl (Nat.le_of_ble_eq_true rfl) (by show 4 + S.n + 1 ≤ 11; omega) (by show 24 + 6 * S.n + 6 ≤ 66; omega) ?_
      rintro _ h3 top3 ⟨rfl, rfl, f3⟩
      refine r_zret (pc := 193) (tL_areAbsorptions.at 104 rfl) rfl rfl (by omega) (by omega) ?_
      exact ⟨rfl, K1.frame fun a q1 q2 => f3 a (by omega), by omega, fun a q1 q2 => (f3 a (by omega)).trans (f1 a q1 q2)⟩
    · intro u hu ih h1 f1 K1 e1 e2 e3 e4
      have L1 := L.fr f1 hyt hxy
      refine r_iload (pc := 34) (i := 7) (tL_areAbsorptions.at 18 rfl) rfl ?_
      refine r_aload_n (pc := 36) (i := 0) (tL_areAbsorptions.at 19 rfl) rfl rfl ?_
      refine r_get (pc := 37) (tL_areAbsorptions.at 20 rfl) gf_L_52 (L1.1) rfl ?_
      refine r_icmp_geN (pc := 40) 181 (tL_areAbsorptions.at 21 rfl) (by decide) (by omega) (by omega) (fun c => by omega) (fun _ => ?_)
      refine r_aload_n (pc := 43) (i := 0) (tL_areAbsorptions.at 22 rfl) rfl rfl ?_
      refine r_iload (pc := 44) (i := 7) (tL_areAbsorptions.at 23 rfl) rfl ?_
      refine r_callV (M' := mL_reached) (pc := 46) (tL_areAbsorptions.at 24 rfl) ml_L_56 rfl mw_L_reached ⟨by decide, by decide⟩ (L1.1) rfl rfl (c_reached L1 (by omega) hn hW hu) rfl rfl (Nat.le_of_ble_eq_true rfl) (by show _ ≤ 11; omega) (by show _ ≤ 66; omega) ?_
      rintro _ _ _ ⟨rfl, rfl, rfl⟩
      refine r_widen (c2 := 4 + (u + 1)) (s2 := 24 + 6 * (u + 1)) (by omega) (by omega) ?_
      generalize hQ : riR S.W S.n u S.n = Q at *
      refine r_astore (pc := 49) (i := 8) (tL_areAbsorptions.at 25 rfl) (by decide) ?_
      refine r_iconst (pc := 51) (w := nI 0) (tL_areAbsorptions.at 26 rfl) (by decide) ?_
      refine r_istore (pc := 52) (i := 9) (tL_areAbsorptions.at 27 rfl) (by decide) ?_
      rw [bH_f] at e1
      have key2 : ∀ a, a ≤ S.n → ∀ h2 : Hp, h2 top = some (aZ v S.n (bH th u (orA Q S.a a))) → (∀ b, b ≠ top → h2 b = hp h1 (top + 4 + u) (aZ v S.n (zF Q)) b) →
          J v mL_areAbsorptions (rmOf 129 11 66) (KM v (fun r h' top' => r = some (.int (nI 1)) ∧ okX v h' x Z ∧ top ≤ top' ∧ frT h h' top x) noX 11 66) top (4 + (u + 1)) (24 + 6 * (u + 1)) h2 (top + 4 + u + 1) 54 [some (.ref y), some (.ref x), some (.int (nI t)), some (.ref top), some (.ref (top + 1)), some (.ref (top + 1 + 1)), some (.ref (top + 1 + 1 + 1)), some (.int (nI u)), some (.ref (top + 4 + u)), some (.int (nI a))] [] := by
        refine down ?_ ?_
        · intro h2 g1 g2
          rw [show orA Q S.a S.n = th u from by rw [hth u hu, hQ], bH_t] at g1
          have f2 : frT h h2 top x := fun a q1 q2 => by rw [g2 a (by omega), hp_ne _ _ (by omega)]; exact f1 a q1 q2
          have K2 : okX v h2 x Z := K1.frame fun a q1 q2 => by rw [g2 a (by omega), hp_ne _ _ (by omega)]
          have L2 := L.fr f2 hyt hxy
          have i2 : h2 (top + 1) = some (aZ v S.n (bG (fun k => S.a.testBit k) u)) := by rw [g2 _ (by omega), hp_ne _ _ (by omega)]; exact e2
          have i3 : h2 (top + 1 + 1) = some (aJ v S.n (scG sA u)) := by rw [g2 _ (by omega), hp_ne _ _ (by omega)]; exact e3
          have i4 : h2 (top + 1 + 1 + 1) = some (aJ v S.n (scG sB u)) := by rw [g2 _ (by omega), hp_ne _ _ (by omega)]; exact e4
          refine r_iload (pc := 54) (i := 9) (tL_areAbsorptions.at 28 rfl) rfl ?_
          refine r_aload_n (pc := 56) (i := 0) (tL_areAbsorptions.at 29 rfl) rfl rfl ?_
          refine r_get (pc := 57) (tL_areAbsorptions.at 30 rfl) gf_L_52 (L2.1) rfl ?_
          refine r_icmp_geN (pc := 60) 98 (tL_areAbsorptions.at 31 rfl) (by decide) (by omega) (by omega) (fun _ => ?_) (fun c => by omega)
          refine r_aload (pc := 98) (i := 4) (tL_areAbsorptions.at 51 rfl) rfl ?_
          refine r_iload (pc := 100) (i := 7) (tL_areAbsorptions.at 52 rfl) rfl ?_
          refine r_aload_n (pc := 102) (i := 0) (tL_areAbsorptions.at 53 rfl) rfl rfl ?_
          refine r_iload (pc := 103) (i := 7) (tL_areAbsorptions.at 54 rfl) rfl ?_
          refine r_callV (M' := mL_isAbsorbing) (pc := 105) (tL_areAbsorptions.at 55 rfl) ml_L_74 rfl mw_L_isAbsorbing ⟨by decide, by decide⟩ (L2.1) rfl rfl (c_lAbs L2 ha (show u < 6 by omega)) rfl rfl (Nat.le_of_ble_eq_true rfl) (by show _ ≤ 11; omega) (by show _ ≤ 66; omega) ?_
          rintro _ _ _ ⟨rfl, rfl, rfl⟩
          refine r_zast (pc := 108) (tL_areAbsorptions.at 56 rfl) i2 u rfl hu (by omega) ?_
          rw [bG_up (nar_b _)]
          refine r_aload_n (pc := 109) (i := 3) (tL_areAbsorptions.at 57 rfl) rfl rfl ?_
          refine r_iload (pc := 110) (i := 7) (tL_areAbsorptions.at 58 rfl) rfl ?_
          refine r_zald (pc := 112) (tL_areAbsorptions.at 59 rfl) ((hp_ne _ _ (by omega)).trans g1) (u) (rfl) (by omega) (by omega) ?_
          rw [bG_at (Nat.lt_succ_self u)]
          have htb : Bool.toNat (th u) ≤ 1 := Bool.toNat_le _
          refine r_if_neN (pc := 113) 119 (tL_areAbsorptions.at 60 rfl) (by decide) (by omega) (fun c1 => ?_) (fun c1 => ?_)
          · have hq : th u = true := by cases q : th u <;> simp_all
            obtain ⟨m1, m2, m3, m4⟩ := hmu u hu hq
            have sAu : sA u = ((An u : Nat) : Int) := by rw [← hsA]; exact if_pos hq
            have sBu : sB u = ((Bn u : Nat) : Int) := by rw [← hsB]; exact if_pos hq
            have K3 := K2.upT (a := top + 1) (e := aZ v S.n (bG (fun k => S.a.testBit k) (u + 1))) (by omega)
            refine r_aload (pc := 119) (i := 5) (tL_areAbsorptions.at 62 rfl) rfl ?_
            refine r_iload (pc := 121) (i := 7) (tL_areAbsorptions.at 63 rfl) rfl ?_
            refine r_aload_n (pc := 123) (i := 1) (tL_areAbsorptions.at 64 rfl) rfl rfl ?_
            refine r_iload (pc := 124) (i := 7) (tL_areAbsorptions.at 65 rfl) rfl ?_
            refine r_iload_n (pc := 126) (i := 2) (tL_areAbsorptions.at 66 rfl) rfl rfl ?_
            refine r_iconst (pc := 127) (w := nI 0) (tL_areAbsorptions.at 67 rfl) (by decide) ?_
            refine r_callV (M' := mX10_absorption) (pc := 128) (tL_areAbsorptions.at 68 rfl) ml_L_78 rfl mw_X10_absorption ⟨by decide, by decide⟩ (K3.1.1) rfl rfl (c_absn K3 z (by omega) (by omega) (by omega) hat (hw u hu hq) (hm u hu hq)) rfl rfl (Nat.le_of_ble_eq_true rfl) (by show _ ≤ 11; omega) (by show _ ≤ 66; omega) ?_
            rintro _ h4 top4 ⟨rfl, rfl, K4, f4⟩
            rw [show fp 0 (aqA Z.2.1.W Z.2.1.n Z.2.1.a u t) (aqB Z.2.1.W Z.2.1.n Z.2.1.a u t) = sA u from by rw [sAu, ← m1]; rfl]
            have j1 : h4 top = some (aZ v S.n (bG th (u + 1))) := by rw [f4 _ (by omega), hp_ne _ _ (by omega)]; exact g1
            have j2 : h4 (top + 1) = some (aZ v S.n (bG (fun k => S.a.testBit k) (u + 1))) := by rw [f4 _ (by omega)]; exact hp_eq _ _ _
            have j3 : h4 (top + 1 + 1) = some (aJ v S.n (scG sA u)) := by rw [f4 _ (by omega), hp_ne _ _ (by omega)]; exact i3
            have j4 : h4 (top + 1 + 1 + 1) = some (aJ v S.n (scG sB u)) := by rw [f4 _ (by omega), hp_ne _ _ (by omega)]; exact i4
            refine r_last (pc := 131) (tL_areAbsorptions.at 69 rfl) j3 u rfl hu (by omega) ?_
            rw [scG_up]
            have K5 := K4.upT (a := top + 1 + 1) (e := aJ v S.n (scG sA (u + 1))) (by omega)
            refine r_aload (pc := 132) (i := 6) (tL_areAbsorptions.at 70 rfl) rfl ?_
            refine r_iload (pc := 134) (i := 7) (tL_areAbsorptions.at 71 rfl) rfl ?_
            refine r_aload_n (pc := 136) (i := 1) (tL_areAbsorptions.at 72 rfl) rfl rfl ?_
            refine r_iload (pc := 137) (i := 7) (tL_areAbsorptions.at 73 rfl) rfl ?_
            refine r_iload_n (pc := 139) (i := 2) (tL_areAbsorptions.at 74 rfl) rfl rfl ?_
            refine r_iconst (pc := 140) (w := nI 1) (tL_areAbsorptions.at 75 rfl) (by decide) ?_
            refine r_callV (M' := mX10_absorption) (pc := 141) (tL_areAbsorptions.at 76 rfl) ml_L_78 rfl mw_X10_absorption ⟨by decide, by decide⟩ (K5.1.1) rfl rfl (c_absn K5 z (by omega) (by omega) (by omega) hat (hw u hu hq) (hm u hu hq)) rfl rfl (Nat.le_of_ble_eq_true rfl) (by show _ ≤ 11; omega) (by show _ ≤ 66; omega) ?_
            rintro _ h6 top6 ⟨rfl, rfl, K6, f6⟩
            rw [show fp 1 (aqA Z.2.1.W Z.2.1.n Z.2.1.a u t) (aqB Z.2.1.W Z.2.1.n Z.2.1.a u t) = sB u from by rw [sBu, ← m2]; rfl]
            have k1 : h6 top = some (aZ v S.n (bG th (u + 1))) := by rw [f6 _ (by omega), hp_ne _ _ (by omega)]; exact j1
            have k2 : h6 (top + 1) = some (aZ v S.n (bG (fun k => S.a.testBit k) (u + 1))) := by rw [f6 _ (by omega), hp_ne _ _ (by omega)]; exact j2
            have k3 : h6 (top + 1 + 1) = some (aJ v S.n (scG sA (u + 1))) := by rw [f6 _ (by omega)]; exact hp_eq _ _ _
            have k4 : h6 (top + 1 + 1 + 1) = some (aJ v S.n (scG sB u)) := by rw [f6 _ (by omega), hp_ne _ _ (by omega)]; exact j4
            refine r_last (pc := 144) (tL_areAbsorptions.at 77 rfl) k4 u rfl hu (by omega) ?_
            rw [scG_up]
            have fin : J v mL_areAbsorptions (rmOf 129 11 66) (KM v (fun r h' top' => r = some (.int (nI 1)) ∧ okX v h' x Z ∧ top ≤ top' ∧ frT h h' top x) noX 11 66) top (4 + (u + 1)) (24 + 6 * (u + 1)) (hp h6 (top + 1 + 1 + 1) (aJ v S.n (scG sB (u + 1)))) (top + 4 + (u + 1)) 34 [some (.ref y), some (.ref x), some (.int (nI t)), some (.ref top), some (.ref (top + 1)), some (.ref (top + 1 + 1)), some (.ref (top + 1 + 1 + 1)), some (.int (nI (u + 1))), none, none] [] :=
              ih _ (fun a q1 q2 => by rw [hp_ne _ _ (by omega), f6 a q2, hp_ne _ _ (by omega), f4 a q2, hp_ne _ _ (by omega)]; exact f2 a q1 q2) (K6.upT (by omega)) ((hp_ne _ _ (by omega)).trans k1) ((hp_ne _ _ (by omega)).trans k2) ((hp_ne _ _ (by omega)).trans k3) (hp_eq _ _ _)
            have sub : ∀ (i : Nat) (w : Value), ([some (.ref y), some (.ref x), some (.int (nI t)), some (.ref top), some (.ref (top + 1)), some (.ref (top + 1 + 1)), some (.ref (top + 1 + 1 + 1)), some (.int (nI (u + 1))), none, none] : List (Option Value))[i]? = some (some w) → ([some (.ref y), some (.ref x), some (.int (nI t)), some (.ref top), some (.ref (top + 1)), some (.ref (top + 1 + 1)), some (.ref (top + 1 + 1 + 1)), some (.int (nI (u + 1))), some (.ref (top + 4 + u)), some (.int (nI S.n))] : List (Option Value))[i]? = some (some w) := fun i w hw => by
              match i, hw with
              | 0, hw => exact hw
              | 1, hw => exact hw
              | 2, hw => exact hw
              | 3, hw => exact hw
              | 4, hw => exact hw
              | 5, hw => exact hw
              | 6, hw => exact hw
              | 7, hw => exact hw
              | 8, hw => cases hw
              | 9, hw => cases hw
            refine r_aload (pc := 145) (i := 4) (tL_areAbsorptions.at 78 rfl) rfl ?_
            refine r_iload (pc := 147) (i := 7) (tL_areAbsorptions.at 79 rfl) rfl ?_
            refine r_zald (pc := 149) (tL_areAbsorptions.at 80 rfl) ((hp_ne _ _ (by omega)).trans k2) (u) (rfl) (by omega) (by omega) ?_
            rw [bG_at (Nat.lt_succ_self u)]
            have hkb : Bool.toNat (S.a.testBit u) ≤ 1 := Bool.toNat_le _
            refine r_if_eqN (pc := 150) 175 (tL_areAbsorptions.at 81 rfl) (by decide) (by omega) (fun c2 => ?_) (fun c2 => ?_)
            · first | refine r_iincN (pc := 175) (tL_areAbsorptions.at 95 rfl) rfl (by decide) ?_ | refine r_iinc (pc := 175) (tL_areAbsorptions.at 95 rfl) rfl rfl (by decide) ?_
              refine r_goto (pc := 178) 34 (tL_areAbsorptions.at 96 rfl) (by decide) ?_
              exact r_sub _ sub fin
            · have hab : S.a.testBit u = true := by cases q : S.a.testBit u <;> simp_all
              have hAu := hA0 u hu hq hab
              refine r_aload (pc := 153) (i := 5) (tL_areAbsorptions.at 82 rfl) rfl ?_
              refine r_iload (pc := 155) (i := 7) (tL_areAbsorptions.at 83 rfl) rfl ?_
              refine r_lald (pc := 157) (tL_areAbsorptions.at 84 rfl) ((hp_ne _ _ (by omega)).trans k3) (u) (rfl) (by omega) (by omega) ?_
              rw [scG_at (Nat.lt_succ_self u), sAu, hAu]
              refine r_iload (pc := 158) (i := 7) (tL_areAbsorptions.at 85 rfl) rfl ?_
              refine r_iload_n (pc := 160) (i := 2) (tL_areAbsorptions.at 86 rfl) rfl rfl ?_
              refine r_icmp_neN (pc := 161) 168 (tL_areAbsorptions.at 87 rfl) (by decide) (by omega) (by omega) (fun c3 => ?_) (fun c3 => ?_)
              · rw [if_neg c3]
                refine r_lconst (pc := 168) (w := lI 0) (tL_areAbsorptions.at 90 rfl) (by decide) ?_
                refine r_lcT (pc := 169) 175 (tL_areAbsorptions.at 91 rfl) (tL_areAbsorptions.at 92 rfl) (by decide) ?_
                first | refine r_iincN (pc := 175) (tL_areAbsorptions.at 95 rfl) rfl (by decide) ?_ | refine r_iinc (pc := 175) (tL_areAbsorptions.at 95 rfl) rfl rfl (by decide) ?_
                refine r_goto (pc := 178) 34 (tL_areAbsorptions.at 96 rfl) (by decide) ?_
                exact r_sub _ sub fin
              · rw [if_pos c3]
                refine r_lconst (pc := 164) (w := lI 1) (tL_areAbsorptions.at 88 rfl) (by decide) ?_
                refine r_goto (pc := 165) 169 (tL_areAbsorptions.at 89 rfl) (by decide) ?_
                refine r_lcT (pc := 169) 175 (tL_areAbsorptions.at 91 rfl) (tL_areAbsorptions.at 92 rfl) (by decide) ?_
                first | refine r_iincN (pc := 175) (tL_areAbsorptions.at 95 rfl) rfl (by decide) ?_ | refine r_iinc (pc := 175) (tL_areAbsorptions.at 95 rfl) rfl rfl (by decide) ?_
                refine r_goto (pc := 178) 34 (tL_areAbsorptions.at 96 rfl) (by decide) ?_
                exact r_sub _ sub fin
          · have hq : th u = false := by cases q : th u <;> simp_all
            refine r_goto (pc := 116) 175 (tL_areAbsorptions.at 61 rfl) (by decide) ?_
            first | refine r_iincN (pc := 175) (tL_areAbsorptions.at 95 rfl) rfl (by decide) ?_ | refine r_iinc (pc := 175) (tL_areAbsorptions.at 95 rfl) rfl rfl (by decide) ?_
            refine r_goto (pc := 178) 34 (tL_areAbsorptions.at 96 rfl) (by decide) ?_
            rw [scG_no (show sA u = 0 from by rw [← hsA]; exact if_neg (by rw [hq]; decide))] at i3
            rw [scG_no (show sB u = 0 from by rw [← hsB]; exact if_neg (by rw [hq]; decide))] at i4
            exact r_sub _ (fun i w hw => by
              match i, hw with
              | 0, hw => exact hw
              | 1, hw => exact hw
              | 2, hw => exact hw
              | 3, hw => exact hw
              | 4, hw => exact hw
              | 5, hw => exact hw
              | 6, hw => exact hw
              | 7, hw => exact hw
              | 8, hw => cases hw
              | 9, hw => cases hw) (ih _ (fun a q1 q2 => by rw [hp_ne _ _ (by omega)]; exact f2 a q1 q2) (K2.upT (by omega)) ((hp_ne _ _ (by omega)).trans g1) (hp_eq _ _ _) ((hp_ne _ _ (by omega)).trans i3) ((hp_ne _ _ (by omega)).trans i4))
        · intro a ha9 ih2 h2 g1 g2
          have L2 : isLw v h2 y S := L1.agr fun b q1 q2 => by rw [g2 b (by omega), hp_ne _ _ (by omega)]
          have hz0 : h2 (top + 4 + u) = some (aZ v S.n (zF Q)) := by rw [g2 _ (by omega)]; exact hp_eq _ _ _
          have hQa : Bool.toNat (Q.testBit a) ≤ 1 := Bool.toNat_le _
          have hab : Bool.toNat (S.a.testBit a) ≤ 1 := Bool.toNat_le _
          refine r_iload (pc := 54) (i := 9) (tL_areAbsorptions.at 28 rfl) rfl ?_
          refine r_aload_n (pc := 56) (i := 0) (tL_areAbsorptions.at 29 rfl) rfl rfl ?_
          refine r_get (pc := 57) (tL_areAbsorptions.at 30 rfl) gf_L_52 (L2.1) rfl ?_
          refine r_icmp_geN (pc := 60) 98 (tL_areAbsorptions.at 31 rfl) (by decide) (by omega) (by omega) (fun c => by omega) (fun _ => ?_)
          refine r_aload_n (pc := 63) (i := 3) (tL_areAbsorptions.at 32 rfl) rfl rfl ?_
          refine r_iload (pc := 64) (i := 7) (tL_areAbsorptions.at 33 rfl) rfl ?_
          first | refine r_dup2_11 (pc := 66) (tL_areAbsorptions.at 34 rfl) rfl rfl ?_ | refine r_dup2_2 (pc := 66) (tL_areAbsorptions.at 34 rfl) rfl ?_
          refine r_zald (pc := 67) (tL_areAbsorptions.at 35 rfl) (g1) (u) (rfl) (by omega) (by omega) ?_
          refine r_aload (pc := 68) (i := 8) (tL_areAbsorptions.at 36 rfl) rfl ?_
          refine r_iload (pc := 70) (i := 9) (tL_areAbsorptions.at 37 rfl) rfl ?_
          refine r_zald (pc := 72) (tL_areAbsorptions.at 38 rfl) (hz0) (a) (rfl) (by omega) (by omega) ?_
          rw [bH_at]
          have no : orA Q S.a (a + 1) = (orA Q S.a a || false) → J v mL_areAbsorptions (rmOf 129 11 66) (KM v (fun r h' top' => r = some (.int (nI 1)) ∧ okX v h' x Z ∧ top ≤ top' ∧ frT h h' top x) noX 11 66) top (4 + (u + 1)) (24 + 6 * (u + 1)) h2 (top + 4 + u + 1) 90 [some (.ref y), some (.ref x), some (.int (nI t)), some (.ref top), some (.ref (top + 1)), some (.ref (top + 1 + 1)), some (.ref (top + 1 + 1 + 1)), some (.int (nI u)), some (.ref (top + 4 + u)), some (.int (nI a))] [.int (nI 0), .int (nI (Bool.toNat (orA Q S.a a))), .int (nI u), .ref top] := by
            intro e
            refine r_ior (pc := 90) (tL_areAbsorptions.at 47 rfl) ?_
            refine r_zast (pc := 91) (tL_areAbsorptions.at 48 rfl) g1 u rfl hu (by omega) ?_
            rw [bH_up (nar_or0 _), ← e]
            first | refine r_iincN (pc := 92) (tL_areAbsorptions.at 49 rfl) rfl (by decide) ?_ | refine r_iinc (pc := 92) (tL_areAbsorptions.at 49 rfl) rfl rfl (by decide) ?_
            refine r_goto (pc := 95) 54 (tL_areAbsorptions.at 50 rfl) (by decide) ?_
            exact ih2 _ (hp_eq _ _ _) (fun b hb => (hp_ne _ _ hb).trans (g2 b hb))
          refine r_if_eqN (pc := 73) 89 (tL_areAbsorptions.at 39 rfl) (by decide) (show Bool.toNat (Q.testBit a) < 2147483648 by omega) (fun c => ?_) (fun c => ?_)
          · have hq : Q.testBit a = false := by cases q : Q.testBit a <;> simp_all
            refine r_iconst (pc := 89) (w := nI 0) (tL_areAbsorptions.at 46 rfl) (by decide) ?_
            exact no (by rw [orA, hq]; rfl)
          · have hq : Q.testBit a = true := by cases q : Q.testBit a <;> simp_all
            refine r_aload_n (pc := 76) (i := 0) (tL_areAbsorptions.at 40 rfl) rfl rfl ?_
            refine r_iload (pc := 77) (i := 9) (tL_areAbsorptions.at 41 rfl) rfl ?_
            refine r_callV (M' := mL_isAbsorbing) (pc := 79) (tL_areAbsorptions.at 42 rfl) ml_L_74 rfl mw_L_isAbsorbing ⟨by decide, by decide⟩ (L2.1) rfl rfl (c_lAbs L2 ha (show a < 6 by omega)) rfl rfl (Nat.le_of_ble_eq_true rfl) (by show _ ≤ 11; omega) (by show _ ≤ 66; omega) ?_
            rintro _ _ _ ⟨rfl, rfl, rfl⟩
            refine r_if_eqN (pc := 82) 89 (tL_areAbsorptions.at 43 rfl) (by decide) (show Bool.toNat (S.a.testBit a) < 2147483648 by omega) (fun c2 => ?_) (fun c2 => ?_)
            · have hq2 : S.a.testBit a = false := by cases q : S.a.testBit a <;> simp_all
              refine r_iconst (pc := 89) (w := nI 0) (tL_areAbsorptions.at 46 rfl) (by decide) ?_
              exact no (by rw [orA, hq, hq2]; rfl)
            · have hq2 : S.a.testBit a = true := by cases q : S.a.testBit a <;> simp_all
              refine r_iconst (pc := 85) (w := nI 1) (tL_areAbsorptions.at 44 rfl) (by decide) ?_
              refine r_goto (pc := 86) 90 (tL_areAbsorptions.at 45 rfl) (by decide) ?_
              refine r_ior (pc := 90) (tL_areAbsorptions.at 47 rfl) ?_
              refine r_zast (pc := 91) (tL_areAbsorptions.at 48 rfl) g1 u rfl hu (by omega) ?_
              rw [bH_up (nar_or1 _), ← show orA Q S.a (a + 1) = (orA Q S.a a || true) from by rw [orA, hq, hq2]; rfl]
              first | refine r_iincN (pc := 92) (tL_areAbsorptions.at 49 rfl) rfl (by decide) ?_ | refine r_iinc (pc := 92) (tL_areAbsorptions.at 49 rfl) rfl rfl (by decide) ?_
              refine r_goto (pc := 95) 54 (tL_areAbsorptions.at 50 rfl) (by decide) ?_
              exact ih2 _ (hp_eq _ _ _) (fun b hb => (hp_ne _ _ hb).trans (g2 b hb))
      exact key2 0 (by omega) _ ((hp_ne _ _ (by omega)).trans e1) (fun b hb => rfl)
  exact key 0 (by omega) _ (fun a q1 q2 => by rw [hp_ne _ _ (by omega), hp_ne _ _ (by omega), hp_ne _ _ (by omega), hp_ne _ _ (by omega)]) ((((K.upT hxt).upT (by omega)).upT (by omega)).upT (by omega)) (by rw [bG_0, hp_ne _ _ (by omega), hp_ne _ _ (by omega), hp_ne _ _ (by omega)]; exact hp_eq _ _ _) (by rw [bG_0, hp_ne _ _ (by omega), hp_ne _ _ (by omega)]; exact hp_eq _ _ _) (by rw [scG_0, hp_ne _ _ (by omega)]; exact hp_eq _ _ _) (by rw [scG_0]; exact hp_eq _ _ _)

