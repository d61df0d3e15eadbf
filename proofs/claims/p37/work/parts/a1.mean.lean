/-! ===== the law: isMean ===== -/
def lcC (B : Nat → Nat) (th : Nat → Bool) : Nat → Nat
  | 0 => 1
  | u + 1 => if th u = true then Nat.lcm (lcC B th u) (B u) else lcC B th u
def sV (A : Nat → Int) (B : Nat → Nat) (th : Nat → Bool) (c u : Nat) : Int := if th u = true then A u * ((c / B u : Nat) : Int) else 0
def gnI (W C : Nat → Nat) (kd c w u : Nat) : Int := if kd = 0 then (W (w * 6 + u) : Nat) * (c : Nat) else if kd = 1 then (W (w * 6 + u) : Nat) * (C (w * 6 + u) : Nat) * (c : Nat) else 0
def smI (W C : Nat → Nat) (kd c : Nat) (s : Nat → Int) (w : Nat) : Nat → Int
  | 0 => 0
  | u + 1 => smI W C kd c s w u + ((W (w * 6 + u) : Nat) * s u + gnI W C kd c w u)
def scG (s : Nat → Int) (u0 : Nat) : Nat → Int64 := fun u => if u < u0 then lI (s u) else 0
theorem scG_at {s : Nat → Int} {u u0 : Nat} (h : u < u0) : scG s u0 u = lI (s u) := if_pos h
theorem scG_up {s : Nat → Int} {u : Nat} : vp_updL (scG s u) u (lI (s u)) = scG s (u + 1) := by
  funext k
  unfold vp_updL scG
  by_cases e : k = u
  · rw [if_pos e, e, if_pos (by omega)]
  · rw [if_neg e]
    by_cases c : k < u
    · rw [if_pos c, if_pos (by omega)]
    · rw [if_neg c, if_neg (by omega)]
theorem scG_no {s : Nat → Int} {u : Nat} (h : s u = 0) : scG s u = scG s (u + 1) := by
  funext k
  unfold scG
  by_cases e : k = u
  · rw [if_neg (by omega), if_pos (by omega), e, h]
    rfl
  · by_cases c : k < u
    · rw [if_pos c, if_pos (by omega)]
    · rw [if_neg c, if_neg (by omega)]
theorem scG_0 {s : Nat → Int} : scG s 0 = fun _ => 0 := by
  funext k
  exact if_neg (by omega)
section
variable {v : Ev} {M : Md} {R : Room} {K : List Frame → Array Value → State → State → Prop} {t0 cells slots : Nat} {h : Hp} {top pc : Nat} {ls : List (Option Value)} {st : List Value}
theorem r_lcT {x : Int64} {off : Int} (tgt : Nat) (d1 : decode M.2.1 pc = .ok (.lcmp, 1)) (d2 : decode M.2.1 (pc + 1) = .ok (.ifCond .eq off, 3)) (ht : ((pc + 1 : Nat) : Int) + off = (tgt : Int)) (kt : J v M R K t0 cells slots h top tgt ls st) : J v M R K t0 cells slots h top pc ls (.long x :: .long x :: st) := by
  refine r_lcmp d1 ?_
  exact r_if_eq tgt d2 ht (fun _ => kt) (fun q => absurd ((lg_cmp_eq _ _).mpr rfl) q)
theorem r_lcN {x : Int64} {off : Int} (tgt : Nat) (d1 : decode M.2.1 pc = .ok (.lcmp, 1)) (d2 : decode M.2.1 (pc + 1) = .ok (.ifCond .ne off, 3)) (ht : ((pc + 1 : Nat) : Int) + off = (tgt : Int)) (kf : J v M R K t0 cells slots h top (pc + 1 + 3) ls st) : J v M R K t0 cells slots h top pc ls (.long x :: .long x :: st) := by
  refine r_lcmp d1 ?_
  exact r_if_ne tgt d2 ht (fun q => absurd ((lg_cmp_eq _ _).mpr rfl) q) (fun _ => kf)
end
theorem lcm_div {c b : Nat} : c / Nat.gcd c b * b = Nat.lcm c b := by
  unfold Nat.lcm
  rw [Nat.div_mul_right_comm (Nat.gcd_dvd_left c b)]
def okS9 (S : LT) : Prop := S.n ≤ 6 ∧ (∀ k, k < 36 → S.W k ≤ 9) ∧ (∀ k, k < 36 → S.C k ≤ 99) ∧ ∀ k, k < 6 → S.D k ≤ 1000
theorem c_isMean {v : Ev} {h : Hp} {top y pa pb pk pt kd : Nat} {S : LT} {af bf : Nat → Int64} {kf tf : Nat → Int32} {A : Nat → Int} {B : Nat → Nat} {kn th : Nat → Bool} (L : isLw v h y S) (hyt : y + 18 ≤ top) (ok : okS9 S)
    (hpa : h pa = some (aJ v S.n af)) (hpb : h pb = some (aJ v S.n bf)) (hpk : h pk = some (aZ v S.n kf)) (hpt : h pt = some (aZ v S.n tf))
    (hA : ∀ u, u < S.n → th u = true → af u = lI (A u)) (hB : ∀ u, u < S.n → th u = true → bf u = lI (B u : Nat)) (hk : ∀ u, u < S.n → kf u = nI (Bool.toNat (kn u))) (ht : ∀ u, u < S.n → tf u = nI (Bool.toNat (th u))) (hkd : kd ≤ 2)
    (hB1 : ∀ u, u < S.n → th u = true → 1 ≤ B u ∧ B u ≤ 9223372036854775807) (hc : ∀ u, u ≤ S.n → lcC B th u ≤ 9223372036854775807)
    (eq : ∀ w, w < S.n → th w = true → kn w = false → smI S.W S.C kd (lcC B th S.n) (sV A B th (lcC B th S.n)) w S.n = (S.D w : Nat) * sV A B th (lcC B th S.n) w) :
    Cal v mL_isMean 128 1 6 [.ref y, .ref pa, .ref pb, .ref pk, .ref pt, .int (nI kd)] h top (fun r h' top' => r = some (.int (nI 1)) ∧ top' = top + 1 ∧ ∀ a, a < top → h' a = h a) noX := by
  obtain ⟨hn, hW, hC, hD⟩ := ok
  have L2 : ∀ e, isLw v (hp h top e) y S := fun e => L.up hyt
  refine Cal.ofJ (by decide +kernel) rfl (Nat.le_of_ble_eq_true rfl) fun hz0 => ?_
  refine r_ls [some (.ref y), some (.ref pa), some (.ref pb), some (.ref pk), some (.ref pt), some (.int (nI kd)), none, none, none, none, none, none, none] rfl ?_
  refine r_lt hpa (fun _ tpa => ?_)
  refine r_lt hpb (fun _ tpb => ?_)
  refine r_lt hpk (fun _ tpk => ?_)
  refine r_lt hpt (fun _ tpt => ?_)
  refine r_lconst (pc := 0) (w := lI 1) (tL_isMean.at 0 rfl) (by decide) ?_
  refine r_lstore (pc := 1) (i := 6) (tL_isMean.at 1 rfl) (by decide) ?_
  refine r_iconst (pc := 3) (w := nI 0) (tL_isMean.at 2 rfl) (by decide) ?_
  refine r_istore (pc := 4) (i := 8) (tL_isMean.at 3 rfl) (by decide) ?_
  have key1 : ∀ u, u ≤ S.n → J v mL_isMean (rmOf 128 1 6) (KM v (fun r h' top' => r = some (.int (nI 1)) ∧ top' = top + 1 ∧ ∀ a, a < top → h' a = h a) noX 1 6) top 0 0 h top 6 [some (.ref y), some (.ref pa), some (.ref pb), some (.ref pk), some (.ref pt), some (.int (nI kd)), some (.long (lI ((lcC B th u : Nat) : Int))), none, some (.int (nI u)), none, none, none, none] [] := by
    refine down ?_ ?_
    · refine r_iload (pc := 6) (i := 8) (tL_isMean.at 4 rfl) rfl ?_
      refine r_aload_n (pc := 8) (i := 0) (tL_isMean.at 5 rfl) rfl rfl ?_
      refine r_get (pc := 9) (tL_isMean.at 6 rfl) gf_L_52 (L.1) rfl ?_
      refine r_icmp_geN (pc := 12) 48 (tL_isMean.at 7 rfl) (by decide) (by omega) (by omega) (fun _ => ?_) (fun c => by omega)
      refine r_aload_n (pc := 48) (i := 0) (tL_isMean.at 26 rfl) rfl rfl ?_
      refine r_get (pc := 49) (tL_isMean.at 27 rfl) gf_L_52 (L.1) rfl ?_
      refine r_newaJ (pc := 52) S.n (tL_isMean.at 28 rfl) rfl (by omega) ac_long (Nat.le_of_ble_eq_true rfl) (by show 0 + S.n ≤ 6; omega) (fun fr => ?_)
      refine r_widen (c2 := 1) (s2 := 6) (by omega) (by omega) ?_
      refine r_astore (pc := 54) (i := 8) (tL_isMean.at 29 rfl) (by decide) ?_
      refine r_iconst (pc := 56) (w := nI 0) (tL_isMean.at 30 rfl) (by decide) ?_
      refine r_istore (pc := 57) (i := 9) (tL_isMean.at 31 rfl) (by decide) ?_
      generalize hcc : lcC B th S.n = c at *
      have hcI : inL ((c : Nat) : Int) := by
        have := hc S.n (Nat.le_refl _)
        rw [hcc] at this
        constructor <;> omega
      rw [show (fun _ => (0 : Int64)) = scG (sV A B th c) 0 from scG_0.symm]
      have key2 : ∀ u, u ≤ S.n → J v mL_isMean (rmOf 128 1 6) (KM v (fun r h' top' => r = some (.int (nI 1)) ∧ top' = top + 1 ∧ ∀ a, a < top → h' a = h a) noX 1 6) top 1 6 (hp h top (aJ v S.n (scG (sV A B th c) u))) (top + 1) 59 [some (.ref y), some (.ref pa), some (.ref pb), some (.ref pk), some (.ref pt), some (.int (nI kd)), some (.long (lI ((c : Nat) : Int))), none, some (.ref top), some (.int (nI u)), none, none, none] [] := by
        refine down ?_ ?_
        · refine r_iload (pc := 59) (i := 9) (tL_isMean.at 32 rfl) rfl ?_
          refine r_aload_n (pc := 61) (i := 0) (tL_isMean.at 33 rfl) rfl rfl ?_
          refine r_get (pc := 62) (tL_isMean.at 34 rfl) gf_L_52 ((L2 _).1) rfl ?_
          refine r_icmp_geN (pc := 65) 99 (tL_isMean.at 35 rfl) (by decide) (by omega) (by omega) (fun _ => ?_) (fun c => by omega)
          refine r_iconst (pc := 99) (w := nI 0) (tL_isMean.at 54 rfl) (by decide) ?_
          refine r_istore (pc := 100) (i := 9) (tL_isMean.at 55 rfl) (by decide) ?_
          have key3 : ∀ w, w ≤ S.n → J v mL_isMean (rmOf 128 1 6) (KM v (fun r h' top' => r = some (.int (nI 1)) ∧ top' = top + 1 ∧ ∀ a, a < top → h' a = h a) noX 1 6) top 1 6 (hp h top (aJ v S.n (scG (sV A B th c) S.n))) (top + 1) 102 [some (.ref y), some (.ref pa), some (.ref pb), some (.ref pk), some (.ref pt), some (.int (nI kd)), some (.long (lI ((c : Nat) : Int))), none, some (.ref top), some (.int (nI w)), none, none, none] [] := by
            refine down ?_ ?_
            · refine r_iload (pc := 102) (i := 9) (tL_isMean.at 56 rfl) rfl ?_
              refine r_aload_n (pc := 104) (i := 0) (tL_isMean.at 57 rfl) rfl rfl ?_
              refine r_get (pc := 105) (tL_isMean.at 58 rfl) gf_L_52 ((L2 _).1) rfl ?_
              refine r_icmp_geN (pc := 108) 259 (tL_isMean.at 59 rfl) (by decide) (by omega) (by omega) (fun _ => ?_) (fun c => by omega)
              refine r_iconst (pc := 259) (w := nI 1) (tL_isMean.at 144 rfl) (by decide) ?_
              refine r_zret (pc := 260) (tL_isMean.at 145 rfl) rfl rfl (Nat.le_of_ble_eq_true rfl) (Nat.le_of_ble_eq_true rfl) ?_
              exact ⟨rfl, rfl, fun a ha => hp_ne _ _ (by omega)⟩
            · intro w hw ih3
              refine r_iload (pc := 102) (i := 9) (tL_isMean.at 56 rfl) rfl ?_
              refine r_aload_n (pc := 104) (i := 0) (tL_isMean.at 57 rfl) rfl rfl ?_
              refine r_get (pc := 105) (tL_isMean.at 58 rfl) gf_L_52 ((L2 _).1) rfl ?_
              refine r_icmp_geN (pc := 108) 259 (tL_isMean.at 59 rfl) (by decide) (by omega) (by omega) (fun c => by omega) (fun _ => ?_)
              refine r_aload (pc := 111) (i := 4) (tL_isMean.at 60 rfl) rfl ?_
              refine r_iload (pc := 113) (i := 9) (tL_isMean.at 61 rfl) rfl ?_
              refine r_zald (pc := 115) (tL_isMean.at 62 rfl) ((hp_ne _ _ (by omega)).trans hpt) (w) (rfl) (by omega) (by omega) ?_
              rw [ht w hw]
              have htb : Bool.toNat (th w) ≤ 1 := Bool.toNat_le _
              refine r_if_eqN (pc := 116) 253 (tL_isMean.at 63 rfl) (by decide) (by omega) (fun c1 => ?_) (fun c1 => ?_)
              · first | refine r_iincN (pc := 253) (tL_isMean.at 142 rfl) rfl (by decide) ?_ | refine r_iinc (pc := 253) (tL_isMean.at 142 rfl) rfl rfl (by decide) ?_
                refine r_goto (pc := 256) 102 (tL_isMean.at 143 rfl) (by decide) ?_
                exact ih3
              · have hth : th w = true := by cases q : th w <;> simp_all
                refine r_aload_n (pc := 119) (i := 3) (tL_isMean.at 64 rfl) rfl rfl ?_
                refine r_iload (pc := 120) (i := 9) (tL_isMean.at 65 rfl) rfl ?_
                refine r_zald (pc := 122) (tL_isMean.at 66 rfl) ((hp_ne _ _ (by omega)).trans hpk) (w) (rfl) (by omega) (by omega) ?_
                rw [hk w hw]
                have hkb : Bool.toNat (kn w) ≤ 1 := Bool.toNat_le _
                refine r_if_eqN (pc := 123) 129 (tL_isMean.at 67 rfl) (by decide) (by omega) (fun c2 => ?_) (fun c2 => ?_)
                · have hkn : kn w = false := by cases q : kn w <;> simp_all
                  refine r_lconst (pc := 129) (w := lI 0) (tL_isMean.at 69 rfl) (by decide) ?_
                  refine r_lstore (pc := 130) (i := 10) (tL_isMean.at 70 rfl) (by decide) ?_
                  refine r_iconst (pc := 132) (w := nI 0) (tL_isMean.at 71 rfl) (by decide) ?_
                  refine r_istore (pc := 133) (i := 12) (tL_isMean.at 72 rfl) (by decide) ?_
                  have key4 : ∀ u, u ≤ S.n → J v mL_isMean (rmOf 128 1 6) (KM v (fun r h' top' => r = some (.int (nI 1)) ∧ top' = top + 1 ∧ ∀ a, a < top → h' a = h a) noX 1 6) top 1 6 (hp h top (aJ v S.n (scG (sV A B th c) S.n))) (top + 1) 135 [some (.ref y), some (.ref pa), some (.ref pb), some (.ref pk), some (.ref pt), some (.int (nI kd)), some (.long (lI ((c : Nat) : Int))), none, some (.ref top), some (.int (nI w)), some (.long (lI (smI S.W S.C kd c (sV A B th c) w u))), none, some (.int (nI u))] [] := by
                    refine down ?_ ?_
                    · refine r_iload (pc := 135) (i := 12) (tL_isMean.at 73 rfl) rfl ?_
                      refine r_aload_n (pc := 137) (i := 0) (tL_isMean.at 74 rfl) rfl rfl ?_
                      refine r_get (pc := 138) (tL_isMean.at 75 rfl) gf_L_52 ((L2 _).1) rfl ?_
                      refine r_icmp_geN (pc := 141) 231 (tL_isMean.at 76 rfl) (by decide) (by omega) (by omega) (fun _ => ?_) (fun c => by omega)
                      have hDw := hD w (by omega)
                      refine r_lload (pc := 231) (i := 10) (tL_isMean.at 128 rfl) rfl ?_
                      refine r_aload_n (pc := 233) (i := 0) (tL_isMean.at 129 rfl) rfl rfl ?_
                      refine r_get (pc := 234) (tL_isMean.at 130 rfl) gf_L_17 ((L2 _).1) rfl ?_
                      refine r_iload (pc := 237) (i := 9) (tL_isMean.at 131 rfl) rfl ?_
                      refine r_iald (pc := 239) (tL_isMean.at 132 rfl) ((L2 _).2.2.2.2.2.1) (w) (rfl) (by omega) (by omega) ?_
                      refine r_i2lN (pc := 240) (tL_isMean.at 133 rfl) (show S.D w < 2147483648 by omega) ?_
                      refine r_aload (pc := 241) (i := 8) (tL_isMean.at 134 rfl) rfl ?_
                      refine r_iload (pc := 243) (i := 9) (tL_isMean.at 135 rfl) rfl ?_
                      refine r_lald (pc := 245) (tL_isMean.at 136 rfl) (hp_eq _ _ _) (w) (rfl) (by omega) (by omega) ?_
                      rw [scG_at hw]
                      first | refine r_lmulL (pc := 246) (tL_isMean.at 137 rfl) ?_ | refine r_lmul (pc := 246) (tL_isMean.at 137 rfl) ?_
                      rw [eq w hw hth hkn]
                      refine r_lcT (pc := 247) 253 (tL_isMean.at 138 rfl) (tL_isMean.at 139 rfl) (by decide) ?_
                      first | refine r_iincN (pc := 253) (tL_isMean.at 142 rfl) rfl (by decide) ?_ | refine r_iinc (pc := 253) (tL_isMean.at 142 rfl) rfl rfl (by decide) ?_
                      refine r_goto (pc := 256) 102 (tL_isMean.at 143 rfl) (by decide) ?_
                      exact r_sub _ (fun i w hw => by
                        match i, hw with
                        | 0, hw => exact hw
                        | 1, hw => exact hw
                        | 2, hw => exact hw
                        | 3, hw => exact hw
                        | 4, hw => exact hw
                        | 5, hw => exact hw
                        | 6, hw => exact hw
                        | 7, hw => cases hw
                        | 8, hw => exact hw
                        | 9, hw => exact hw
                        | 10, hw => cases hw
                        | 11, hw => cases hw
                        | 12, hw => cases hw) ih3
                    · intro u hu ih4
                      have hw9 := hW (w * 6 + u) (by omega)
                      have hc9 := hC (w * 6 + u) (by omega)
                      have hsm : smI S.W S.C kd c (sV A B th c) w (u + 1) = smI S.W S.C kd c (sV A B th c) w u + ((S.W (w * 6 + u) : Nat) * sV A B th c u + gnI S.W S.C kd c w u) := rfl
                      rw [hsm] at ih4
                      refine r_iload (pc := 135) (i := 12) (tL_isMean.at 73 rfl) rfl ?_
                      refine r_aload_n (pc := 137) (i := 0) (tL_isMean.at 74 rfl) rfl rfl ?_
                      refine r_get (pc := 138) (tL_isMean.at 75 rfl) gf_L_52 ((L2 _).1) rfl ?_
                      refine r_icmp_geN (pc := 141) 231 (tL_isMean.at 76 rfl) (by decide) (by omega) (by omega) (fun c => by omega) (fun _ => ?_)
                      refine r_lload (pc := 144) (i := 10) (tL_isMean.at 77 rfl) rfl ?_
                      refine r_aload_n (pc := 146) (i := 0) (tL_isMean.at 78 rfl) rfl rfl ?_
                      refine r_get (pc := 147) (tL_isMean.at 79 rfl) gf_L_9 ((L2 _).1) rfl ?_
                      refine r_iload (pc := 150) (i := 9) (tL_isMean.at 80 rfl) rfl ?_
                      refine r_aaldQ (pc := 152) (tL_isMean.at 81 rfl) ((L2 _).2.1) (w) rfl (by omega) (Nat.le_of_ble_eq_true rfl) ?_
                      rw [rwQ_at (by omega)]
                      refine r_iload (pc := 153) (i := 12) (tL_isMean.at 82 rfl) rfl ?_
                      refine r_iald (pc := 155) (tL_isMean.at 83 rfl) ((L2 _).2.2.1 w (by omega)) (u) (rfl) (by omega) (by omega) ?_
                      rw [rowF_at (by omega)]
                      refine r_i2lN (pc := 156) (tL_isMean.at 84 rfl) (show S.W (w * 6 + u) < 2147483648 by omega) ?_
                      refine r_aload (pc := 157) (i := 8) (tL_isMean.at 85 rfl) rfl ?_
                      refine r_iload (pc := 159) (i := 12) (tL_isMean.at 86 rfl) rfl ?_
                      refine r_lald (pc := 161) (tL_isMean.at 87 rfl) (hp_eq _ _ _) (u) (rfl) (by omega) (by omega) ?_
                      rw [scG_at hu]
                      first | refine r_lmulL (pc := 162) (tL_isMean.at 88 rfl) ?_ | refine r_lmul (pc := 162) (tL_isMean.at 88 rfl) ?_
                      refine r_iload (pc := 163) (i := 5) (tL_isMean.at 89 rfl) rfl ?_
                      refine r_if_neN (pc := 165) 185 (tL_isMean.at 90 rfl) (by decide) (by omega) (fun k0 => ?_) (fun k0 => ?_)
                      · refine r_iload (pc := 185) (i := 5) (tL_isMean.at 101 rfl) rfl ?_
                        refine r_iconst (pc := 187) (w := nI 1) (tL_isMean.at 102 rfl) (by decide) ?_
                        refine r_icmp_neN (pc := 188) 220 (tL_isMean.at 103 rfl) (by decide) (by omega) (by omega) (fun k1 => ?_) (fun k1 => ?_)
                        · have hg : gnI S.W S.C kd c w u = 0 := by unfold gnI; rw [if_neg k0, if_neg k1]
                          rw [hg] at ih4
                          refine r_lconst (pc := 220) (w := lI 0) (tL_isMean.at 122 rfl) (by decide) ?_
                          first | refine r_laddL (pc := 221) (tL_isMean.at 123 rfl) ?_ | refine r_ladd (pc := 221) (tL_isMean.at 123 rfl) ?_
                          first | refine r_laddL (pc := 222) (tL_isMean.at 124 rfl) ?_ | refine r_ladd (pc := 222) (tL_isMean.at 124 rfl) ?_
                          refine r_lstore (pc := 223) (i := 10) (tL_isMean.at 125 rfl) (by decide) ?_
                          first | refine r_iincN (pc := 225) (tL_isMean.at 126 rfl) rfl (by decide) ?_ | refine r_iinc (pc := 225) (tL_isMean.at 126 rfl) rfl rfl (by decide) ?_
                          refine r_goto (pc := 228) 135 (tL_isMean.at 127 rfl) (by decide) ?_
                          exact ih4
                        · have hg : gnI S.W S.C kd c w u = (S.W (w * 6 + u) : Nat) * (S.C (w * 6 + u) : Nat) * (c : Nat) := by unfold gnI; rw [if_neg k0, if_pos k1]
                          rw [hg] at ih4
                          refine r_aload_n (pc := 191) (i := 0) (tL_isMean.at 104 rfl) rfl rfl ?_
                          refine r_get (pc := 192) (tL_isMean.at 105 rfl) gf_L_9 ((L2 _).1) rfl ?_
                          refine r_iload (pc := 195) (i := 9) (tL_isMean.at 106 rfl) rfl ?_
                          refine r_aaldQ (pc := 197) (tL_isMean.at 107 rfl) ((L2 _).2.1) (w) rfl (by omega) (Nat.le_of_ble_eq_true rfl) ?_
                          rw [rwQ_at (by omega)]
                          refine r_iload (pc := 198) (i := 12) (tL_isMean.at 108 rfl) rfl ?_
                          refine r_iald (pc := 200) (tL_isMean.at 109 rfl) ((L2 _).2.2.1 w (by omega)) (u) (rfl) (by omega) (by omega) ?_
                          rw [rowF_at (by omega)]
                          refine r_i2lN (pc := 201) (tL_isMean.at 110 rfl) (show S.W (w * 6 + u) < 2147483648 by omega) ?_
                          refine r_aload_n (pc := 202) (i := 0) (tL_isMean.at 111 rfl) rfl rfl ?_
                          refine r_get (pc := 203) (tL_isMean.at 112 rfl) gf_L_14 ((L2 _).1) rfl ?_
                          refine r_iload (pc := 206) (i := 9) (tL_isMean.at 113 rfl) rfl ?_
                          refine r_aaldQ (pc := 208) (tL_isMean.at 114 rfl) ((L2 _).2.2.2.1) (w) rfl (by omega) (Nat.le_of_ble_eq_true rfl) ?_
                          rw [rwQ_at (by omega)]
                          refine r_iload (pc := 209) (i := 12) (tL_isMean.at 115 rfl) rfl ?_
                          refine r_iald (pc := 211) (tL_isMean.at 116 rfl) ((L2 _).2.2.2.2.1 w (by omega)) (u) (rfl) (by omega) (by omega) ?_
                          rw [rowF_at (by omega)]
                          refine r_i2lN (pc := 212) (tL_isMean.at 117 rfl) (show S.C (w * 6 + u) < 2147483648 by omega) ?_
                          first | refine r_lmulL (pc := 213) (tL_isMean.at 118 rfl) ?_ | refine r_lmul (pc := 213) (tL_isMean.at 118 rfl) ?_
                          refine r_lload (pc := 214) (i := 6) (tL_isMean.at 119 rfl) rfl ?_
                          first | refine r_lmulL (pc := 216) (tL_isMean.at 120 rfl) ?_ | refine r_lmul (pc := 216) (tL_isMean.at 120 rfl) ?_
                          refine r_goto (pc := 217) 221 (tL_isMean.at 121 rfl) (by decide) ?_
                          first | refine r_laddL (pc := 221) (tL_isMean.at 123 rfl) ?_ | refine r_ladd (pc := 221) (tL_isMean.at 123 rfl) ?_
                          first | refine r_laddL (pc := 222) (tL_isMean.at 124 rfl) ?_ | refine r_ladd (pc := 222) (tL_isMean.at 124 rfl) ?_
                          refine r_lstore (pc := 223) (i := 10) (tL_isMean.at 125 rfl) (by decide) ?_
                          first | refine r_iincN (pc := 225) (tL_isMean.at 126 rfl) rfl (by decide) ?_ | refine r_iinc (pc := 225) (tL_isMean.at 126 rfl) rfl rfl (by decide) ?_
                          refine r_goto (pc := 228) 135 (tL_isMean.at 127 rfl) (by decide) ?_
                          exact ih4
                      · have hg : gnI S.W S.C kd c w u = (S.W (w * 6 + u) : Nat) * (c : Nat) := by unfold gnI; rw [if_pos k0]
                        rw [hg] at ih4
                        refine r_aload_n (pc := 168) (i := 0) (tL_isMean.at 91 rfl) rfl rfl ?_
                        refine r_get (pc := 169) (tL_isMean.at 92 rfl) gf_L_9 ((L2 _).1) rfl ?_
                        refine r_iload (pc := 172) (i := 9) (tL_isMean.at 93 rfl) rfl ?_
                        refine r_aaldQ (pc := 174) (tL_isMean.at 94 rfl) ((L2 _).2.1) (w) rfl (by omega) (Nat.le_of_ble_eq_true rfl) ?_
                        rw [rwQ_at (by omega)]
                        refine r_iload (pc := 175) (i := 12) (tL_isMean.at 95 rfl) rfl ?_
                        refine r_iald (pc := 177) (tL_isMean.at 96 rfl) ((L2 _).2.2.1 w (by omega)) (u) (rfl) (by omega) (by omega) ?_
                        rw [rowF_at (by omega)]
                        refine r_i2lN (pc := 178) (tL_isMean.at 97 rfl) (show S.W (w * 6 + u) < 2147483648 by omega) ?_
                        refine r_lload (pc := 179) (i := 6) (tL_isMean.at 98 rfl) rfl ?_
                        first | refine r_lmulL (pc := 181) (tL_isMean.at 99 rfl) ?_ | refine r_lmul (pc := 181) (tL_isMean.at 99 rfl) ?_
                        refine r_goto (pc := 182) 221 (tL_isMean.at 100 rfl) (by decide) ?_
                        first | refine r_laddL (pc := 221) (tL_isMean.at 123 rfl) ?_ | refine r_ladd (pc := 221) (tL_isMean.at 123 rfl) ?_
                        first | refine r_laddL (pc := 222) (tL_isMean.at 124 rfl) ?_ | refine r_ladd (pc := 222) (tL_isMean.at 124 rfl) ?_
                        refine r_lstore (pc := 223) (i := 10) (tL_isMean.at 125 rfl) (by decide) ?_
                        first | refine r_iincN (pc := 225) (tL_isMean.at 126 rfl) rfl (by decide) ?_ | refine r_iinc (pc := 225) (tL_isMean.at 126 rfl) rfl rfl (by decide) ?_
                        refine r_goto (pc := 228) 135 (tL_isMean.at 127 rfl) (by decide) ?_
                        exact ih4
                  exact key4 0 (by omega)
                · refine r_goto (pc := 126) 253 (tL_isMean.at 68 rfl) (by decide) ?_
                  first | refine r_iincN (pc := 253) (tL_isMean.at 142 rfl) rfl (by decide) ?_ | refine r_iinc (pc := 253) (tL_isMean.at 142 rfl) rfl rfl (by decide) ?_
                  refine r_goto (pc := 256) 102 (tL_isMean.at 143 rfl) (by decide) ?_
                  exact ih3
          exact r_sub _ (fun i w hw => by
            match i, hw with
            | 0, hw => exact hw
            | 1, hw => exact hw
            | 2, hw => exact hw
            | 3, hw => exact hw
            | 4, hw => exact hw
            | 5, hw => exact hw
            | 6, hw => exact hw
            | 7, hw => cases hw
            | 8, hw => exact hw
            | 9, hw => exact hw
            | 10, hw => cases hw
            | 11, hw => cases hw
            | 12, hw => cases hw) (key3 0 (by omega))
        · intro u hu ih2
          refine r_iload (pc := 59) (i := 9) (tL_isMean.at 32 rfl) rfl ?_
          refine r_aload_n (pc := 61) (i := 0) (tL_isMean.at 33 rfl) rfl rfl ?_
          refine r_get (pc := 62) (tL_isMean.at 34 rfl) gf_L_52 ((L2 _).1) rfl ?_
          refine r_icmp_geN (pc := 65) 99 (tL_isMean.at 35 rfl) (by decide) (by omega) (by omega) (fun c => by omega) (fun _ => ?_)
          refine r_aload (pc := 68) (i := 4) (tL_isMean.at 36 rfl) rfl ?_
          refine r_iload (pc := 70) (i := 9) (tL_isMean.at 37 rfl) rfl ?_
          refine r_zald (pc := 72) (tL_isMean.at 38 rfl) ((hp_ne _ _ (by omega)).trans hpt) (u) (rfl) (by omega) (by omega) ?_
          rw [ht u hu]
          have htb : Bool.toNat (th u) ≤ 1 := Bool.toNat_le _
          refine r_if_eqN (pc := 73) 93 (tL_isMean.at 39 rfl) (by decide) (by omega) (fun c1 => ?_) (fun c1 => ?_)
          · rw [← scG_no (show sV A B th c u = 0 from if_neg (by intro q; rw [q] at c1; cases c1))] at ih2
            first | refine r_iincN (pc := 93) (tL_isMean.at 52 rfl) rfl (by decide) ?_ | refine r_iinc (pc := 93) (tL_isMean.at 52 rfl) rfl rfl (by decide) ?_
            refine r_goto (pc := 96) 59 (tL_isMean.at 53 rfl) (by decide) ?_
            exact ih2
          · have hth : th u = true := by cases q : th u <;> simp_all
            obtain ⟨b1, b2⟩ := hB1 u hu hth
            refine r_aload (pc := 76) (i := 8) (tL_isMean.at 40 rfl) rfl ?_
            refine r_iload (pc := 78) (i := 9) (tL_isMean.at 41 rfl) rfl ?_
            refine r_aload_n (pc := 80) (i := 1) (tL_isMean.at 42 rfl) rfl rfl ?_
            refine r_iload (pc := 81) (i := 9) (tL_isMean.at 43 rfl) rfl ?_
            refine r_lald (pc := 83) (tL_isMean.at 44 rfl) ((hp_ne _ _ (by omega)).trans hpa) (u) (rfl) (by omega) (by omega) ?_
            rw [hA u hu hth]
            refine r_lload (pc := 84) (i := 6) (tL_isMean.at 45 rfl) rfl ?_
            refine r_aload_n (pc := 86) (i := 2) (tL_isMean.at 46 rfl) rfl rfl ?_
            refine r_iload (pc := 87) (i := 9) (tL_isMean.at 47 rfl) rfl ?_
            refine r_lald (pc := 89) (tL_isMean.at 48 rfl) ((hp_ne _ _ (by omega)).trans hpb) (u) (rfl) (by omega) (by omega) ?_
            rw [hB u hu hth]
            refine r_ldivL (pc := 90) (tL_isMean.at 49 rfl) (hcI) (⟨by omega, by omega⟩) (by omega) ?_
            first | refine r_lmulL (pc := 91) (tL_isMean.at 50 rfl) ?_ | refine r_lmul (pc := 91) (tL_isMean.at 50 rfl) ?_
            rw [show ((c : Nat) : Int).tdiv ((B u : Nat) : Int) = ((c / B u : Nat) : Int) from by rw [Int.tdiv_eq_ediv_of_nonneg (by omega)]; rfl, show A u * ((c / B u : Nat) : Int) = sV A B th c u from (if_pos hth).symm]
            refine r_last (pc := 92) (tL_isMean.at 51 rfl) (hp_eq _ _ _) u rfl hu (Nat.le_trans (Nat.le_of_lt_succ (Nat.lt_succ_of_le hn)) (by omega)) ?_
            rw [scG_up, hp_hp]
            first | refine r_iincN (pc := 93) (tL_isMean.at 52 rfl) rfl (by decide) ?_ | refine r_iinc (pc := 93) (tL_isMean.at 52 rfl) rfl rfl (by decide) ?_
            refine r_goto (pc := 96) 59 (tL_isMean.at 53 rfl) (by decide) ?_
            exact ih2
      exact key2 0 (by omega)
    · intro u hu ih1
      refine r_iload (pc := 6) (i := 8) (tL_isMean.at 4 rfl) rfl ?_
      refine r_aload_n (pc := 8) (i := 0) (tL_isMean.at 5 rfl) rfl rfl ?_
      refine r_get (pc := 9) (tL_isMean.at 6 rfl) gf_L_52 (L.1) rfl ?_
      refine r_icmp_geN (pc := 12) 48 (tL_isMean.at 7 rfl) (by decide) (by omega) (by omega) (fun c => by omega) (fun _ => ?_)
      refine r_aload (pc := 15) (i := 4) (tL_isMean.at 8 rfl) rfl ?_
      refine r_iload (pc := 17) (i := 8) (tL_isMean.at 9 rfl) rfl ?_
      refine r_zald (pc := 19) (tL_isMean.at 10 rfl) (hpt) (u) (rfl) (by omega) (by omega) ?_
      rw [ht u hu]
      have htb : Bool.toNat (th u) ≤ 1 := Bool.toNat_le _
      refine r_if_eqN (pc := 20) 42 (tL_isMean.at 11 rfl) (by decide) (by omega) (fun c1 => ?_) (fun c1 => ?_)
      · rw [lcC, if_neg (by intro q; rw [q] at c1; cases c1)] at ih1
        first | refine r_iincN (pc := 42) (tL_isMean.at 24 rfl) rfl (by decide) ?_ | refine r_iinc (pc := 42) (tL_isMean.at 24 rfl) rfl rfl (by decide) ?_
        refine r_goto (pc := 45) 6 (tL_isMean.at 25 rfl) (by decide) ?_
        exact ih1
      · have hth : th u = true := by cases q : th u <;> simp_all
        obtain ⟨b1, b2⟩ := hB1 u hu hth
        have hcu := hc u (by omega)
        rw [lcC, if_pos hth] at ih1
        generalize lcC B th u = c at *
        have hg1 : 0 < Nat.gcd c (B u) := Nat.gcd_pos_of_pos_right _ b1
        have hg2 : Nat.gcd c (B u) ≤ B u := Nat.gcd_le_right _ b1
        refine r_lload (pc := 23) (i := 6) (tL_isMean.at 12 rfl) rfl ?_
        refine r_lload (pc := 25) (i := 6) (tL_isMean.at 13 rfl) rfl ?_
        refine r_aload_n (pc := 27) (i := 2) (tL_isMean.at 14 rfl) rfl rfl ?_
        refine r_iload (pc := 28) (i := 8) (tL_isMean.at 15 rfl) rfl ?_
        refine r_lald (pc := 30) (tL_isMean.at 16 rfl) (hpb) (u) (rfl) (by omega) (by omega) ?_
        rw [hB u hu hth]
        refine r_callS (M' := mL_divisor) (pc := 31) (tL_isMean.at 17 rfl) ml_L_48 rfl mw_L_divisor ⟨by decide, by decide⟩ (c_div 63 c (B u) (by omega) hcu b2) rfl rfl (Nat.le_of_ble_eq_true rfl) (Nat.le_of_ble_eq_true rfl) (Nat.le_of_ble_eq_true rfl) ?_
        rintro _ _ _ ⟨rfl, rfl, rfl⟩
        refine r_ldivL (pc := 34) (tL_isMean.at 18 rfl) (⟨by omega, by omega⟩) (⟨by omega, by omega⟩) (by omega) ?_
        rw [show ((c : Nat) : Int).tdiv ((Nat.gcd c (B u) : Nat) : Int) = ((c / Nat.gcd c (B u) : Nat) : Int) from by rw [Int.tdiv_eq_ediv_of_nonneg (by omega)]; rfl]
        refine r_aload_n (pc := 35) (i := 2) (tL_isMean.at 19 rfl) rfl rfl ?_
        refine r_iload (pc := 36) (i := 8) (tL_isMean.at 20 rfl) rfl ?_
        refine r_lald (pc := 38) (tL_isMean.at 21 rfl) (hpb) (u) (rfl) (by omega) (by omega) ?_
        rw [hB u hu hth]
        refine r_lmulL (pc := 39) (tL_isMean.at 22 rfl) ?_
        rw [show ((c / Nat.gcd c (B u) : Nat) : Int) * ((B u : Nat) : Int) = ((Nat.lcm c (B u) : Nat) : Int) from by rw [← lcm_div]; rfl]
        refine r_lstore (pc := 40) (i := 6) (tL_isMean.at 23 rfl) (by decide) ?_
        first | refine r_iincN (pc := 42) (tL_isMean.at 24 rfl) rfl (by decide) ?_ | refine r_iinc (pc := 42) (tL_isMean.at 24 rfl) rfl rfl (by decide) ?_
        refine r_goto (pc := 45) 6 (tL_isMean.at 25 rfl) (by decide) ?_
        exact ih1
  exact key1 0 (by omega)

