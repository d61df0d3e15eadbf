/-! ===== the law: areWalks ===== -/
theorem lcL_L_93 : Cond.constantLong RL 93 (lI (1103515245)) ∈ big := by rw [show lI (1103515245) = (1103515245) by decide]; exact lc_L_93
theorem lcL_L_95 : Cond.constantLong RL 95 (lI (12345)) ∈ big := by rw [show lI (12345) = (12345) by decide]; exact lc_L_95
theorem lcL_L_97 : Cond.constantLong RL 97 (lI (2147483648)) ∈ big := by rw [show lI (2147483648) = (2147483648) by decide]; exact lc_L_97
theorem lI_shr16 {d : Nat} (hd : d < 2147483648) : (lI (d : Int)) >>> ((nI 16).toInt64 &&& 63) = lI ((d / 65536 : Nat) : Int) := by
  rw [show ((nI 16).toInt64 &&& 63) = (16 : Int64) by decide]
  apply Int64.toInt_inj.mp
  rw [lI_toInt ⟨by omega, by omega⟩]
  have e1 : ((lI (d : Int)) >>> (16 : Int64)).toInt = (lI (d : Int)).toInt >>> 16 := by
    show (((lI (d : Int)) >>> (16 : Int64)).toBitVec).toInt = _
    rw [Int64.toBitVec_shiftRight]
    show ((lI (d : Int)).toBitVec.sshiftRight 16).toInt = _
    rw [BitVec.toInt_sshiftRight]
    rfl
  rw [e1, lI_toInt ⟨by omega, by omega⟩, Int.shiftRight_eq_div_pow]
  rfl
/-- where the draw leads, as far as the first u vertices tell -/
def toZ (p : Nat → Bool) (u : Nat) : Int := if fstN p u < u then (fstN p u : Nat) else -1
theorem toZ_b (p : Nat → Bool) (u : Nat) (hu : u ≤ 100) : inI (toZ p u) := by
  unfold toZ inI
  split <;> omega
theorem toZ_ge {p : Nat → Bool} {u : Nat} (h : 0 ≤ toZ p u) : toZ p (u + 1) = toZ p u := by
  have c : fstN p u < u := by
    unfold toZ at h
    split at h
    · assumption
    · omega
  unfold toZ
  rw [if_pos c, fstN, if_pos c, if_pos (by omega)]
theorem toZ_lt {p : Nat → Bool} {u : Nat} (h : toZ p u < 0) : toZ p (u + 1) = if p u = true then (u : Int) else -1 := by
  have c : ¬ fstN p u < u := by
    intro c
    unfold toZ at h
    rw [if_pos c] at h
    omega
  unfold toZ
  rw [fstN, if_neg c]
  by_cases q : p u = true
  · rw [if_pos q, if_pos q, if_pos (by omega)]
  · rw [if_neg q, if_neg q, if_neg (by omega)]
theorem c_walks {v : Ev} {h : Hp} {top y x from_ steps seed cn : Nat} {S : LT} {Z : CS} {cc : Nat → Int} (L : isLw v h y S) (K : okX v h x Z) (z : okZ Z) (hl : okL Z.2.1) (hcd : okC v h x Z.2.1 cn cc) (hF : Z.2.1.F < top) (hyt : y + 18 ≤ top) (hxt : x + 96 ≤ top) (hxy : y + 18 ≤ x ∨ x + 96 ≤ y) (ok : okS9 S) (ha : S.a < 64) (hG : Z.2.1.n = S.n) (hf : from_ < S.n) (hst : steps ≤ 100) (hsd : seed < 2147483648)
    (hdg : ∀ u, u < S.n → S.D u = degN S.W u S.n) (hCd : ∀ u, u < S.n → S.C (u * 6 + u) = 0)
    (hws : wkS Z.2.1.W Z.2.1.n Z.2.1.a (tbl Z.2.1 cn cc) from_ seed steps = wkS S.W S.n S.a S.C from_ seed steps) :
    Cal v mL_areWalks 8 0 0 [.ref y, .ref x, .int (nI from_), .int (nI steps), .int (nI seed)] h top (fun r h' top' => r = some (.int (nI 1)) ∧ top' = top ∧ okX v h' x Z ∧ frT h h' top x) noX := by
  obtain ⟨hn, hW, hC, hD⟩ := ok
  refine Cal.ofJ (by decide +kernel) rfl (Nat.le_of_ble_eq_true rfl) fun hz0 => ?_
  refine r_ls [some (.ref y), some (.ref x), some (.int (nI from_)), some (.int (nI steps)), some (.int (nI seed)), none, none, none, none, none, none, none, none, none, none, none, none, none] rfl ?_
  refine r_iload (pc := 0) (i := 4) (tL_areWalks.at 0 rfl) rfl ?_
  first | refine r_i2lN (pc := 2) (tL_areWalks.at 1 rfl) (by omega) ?_ | refine r_i2lZ (pc := 2) (tL_areWalks.at 1 rfl) ⟨by omega, by omega⟩ ?_ | refine r_i2l (pc := 2) (tL_areWalks.at 1 rfl) ?_
  refine r_lstore (pc := 3) (i := 5) (tL_areWalks.at 2 rfl) (by decide) ?_
  refine r_iload_n (pc := 5) (i := 2) (tL_areWalks.at 3 rfl) rfl rfl ?_
  refine r_istore (pc := 6) (i := 7) (tL_areWalks.at 4 rfl) (by decide) ?_
  refine r_iconst (pc := 8) (w := nI 0) (tL_areWalks.at 5 rfl) (by decide) ?_
  refine r_istore (pc := 9) (i := 8) (tL_areWalks.at 6 rfl) (by decide) ?_
  refine r_iconst (pc := 11) (w := nI 1) (tL_areWalks.at 7 rfl) (by decide) ?_
  refine r_iload_n (pc := 12) (i := 2) (tL_areWalks.at 8 rfl) rfl rfl ?_
  refine r_ishl (pc := 13) (tL_areWalks.at 9 rfl) ?_
  rw [bs_one from_ (by omega)]
  refine r_istore (pc := 14) (i := 9) (tL_areWalks.at 10 rfl) (by decide) ?_
  refine r_aload_n (pc := 16) (i := 0) (tL_areWalks.at 11 rfl) rfl rfl ?_
  refine r_iload_n (pc := 17) (i := 2) (tL_areWalks.at 12 rfl) rfl rfl ?_
  refine r_callV (M' := mL_isAbsorbing) (pc := 18) (tL_areWalks.at 13 rfl) ml_L_74 rfl mw_L_isAbsorbing ⟨by decide, by decide⟩ (L.1) rfl rfl (c_lAbs L ha (show from_ < 6 by omega)) rfl rfl (Nat.le_of_ble_eq_true rfl) (Nat.le_of_ble_eq_true rfl) (Nat.le_of_ble_eq_true rfl) ?_
  rintro _ _ _ ⟨rfl, rfl, rfl⟩
  have fin : ∀ z, z = (if S.a.testBit from_ = true then (0 : Int) else -1) → J v mL_areWalks (rmOf 8 0 0) (KM v (fun r h' top' => r = some (.int (nI 1)) ∧ top' = top ∧ okX v h' x Z ∧ frT h h' top x) noX 0 0) top 0 0 h top 29 [some (.ref y), some (.ref x), some (.int (nI from_)), some (.int (nI steps)), some (.int (nI seed)), some (.long (lI (seed : Nat))), none, some (.int (nI from_)), some (.int (nI 0)), some (.int (nI (2 ^ from_))), none, none, none, none, none, none, none, none] [.int (zI z)] := by
    intro z hz
    subst hz
    refine r_istore (pc := 29) (i := 10) (tL_areWalks.at 18 rfl) (by decide) ?_
    refine r_iconst (pc := 31) (w := nI 1) (tL_areWalks.at 19 rfl) (by decide) ?_
    refine r_istore (pc := 32) (i := 11) (tL_areWalks.at 20 rfl) (by decide) ?_
    have key : ∀ m k, k + m = steps → J v mL_areWalks (rmOf 8 0 0) (KM v (fun r h' top' => r = some (.int (nI 1)) ∧ top' = top ∧ okX v h' x Z ∧ frT h h' top x) noX 0 0) top 0 0 h top 34 [some (.ref y), some (.ref x), some (.int (nI from_)), some (.int (nI steps)), some (.int (nI seed)), some (.long (lI ((wkS S.W S.n S.a S.C from_ seed k).1.1 : Nat))), none, some (.int (nI (wkS S.W S.n S.a S.C from_ seed k).1.2)), some (.int (nI (wkS S.W S.n S.a S.C from_ seed k).2.1.2)), some (.int (nI (wkS S.W S.n S.a S.C from_ seed k).2.1.1)), some (.int (zI (wkS S.W S.n S.a S.C from_ seed k).2.2)), some (.int (nI (k + 1))), none, none, none, none, none, none] [] := by
      intro m
      induction m with
      | zero =>
        intro k hk2
        have hk2 : k = steps := by omega
        subst hk2
        rw [← hws]
        generalize hs9 : wkS Z.2.1.W Z.2.1.n Z.2.1.a (tbl Z.2.1 cn cc) from_ seed k = s9
        refine r_iload (pc := 34) (i := 11) (tL_areWalks.at 21 rfl) rfl ?_
        refine r_iload_n (pc := 36) (i := 3) (tL_areWalks.at 22 rfl) rfl rfl ?_
        refine r_icmp_gtN (pc := 37) 191 (tL_areWalks.at 23 rfl) (by decide) (by omega) (by omega) (fun _ => ?_) (fun c => by omega)
        refine r_aload_n (pc := 191) (i := 1) (tL_areWalks.at 104 rfl) rfl rfl ?_
        refine r_iload_n (pc := 192) (i := 2) (tL_areWalks.at 105 rfl) rfl rfl ?_
        refine r_iload_n (pc := 193) (i := 3) (tL_areWalks.at 106 rfl) rfl rfl ?_
        refine r_iload (pc := 194) (i := 4) (tL_areWalks.at 107 rfl) rfl ?_
        refine r_iconst (pc := 196) (w := nI 0) (tL_areWalks.at 108 rfl) (by decide) ?_
        refine r_callV (M' := mX10_walk) (pc := 197) (tL_areWalks.at 109 rfl) ml_L_99 rfl mw_X10_walk ⟨by decide, by decide⟩ (K.1.1) rfl rfl (c_walkQ (w := 0) K z hl hcd (by omega) (by omega) hsd (by omega)) rfl rfl (Nat.le_of_ble_eq_true rfl) (Nat.le_of_ble_eq_true rfl) (Nat.le_of_ble_eq_true rfl) ?_
        rintro _ h1 top1 ⟨rfl, rfl, K1, f1⟩
        rw [hs9, show tdV s9 0 = ((s9.1.2 : Nat) : Int) from rfl, zI_nat]
        have fr1 : frT h h1 top x := fun a _ q => f1 a q
        refine r_iload (pc := 200) (i := 7) (tL_areWalks.at 110 rfl) rfl ?_
        refine r_icmp_ne (pc := 202) 251 (tL_areWalks.at 111 rfl) (by decide) (fun z => absurd rfl z) (fun _ => ?_)
        refine r_aload_n (pc := 205) (i := 1) (tL_areWalks.at 112 rfl) rfl rfl ?_
        refine r_iload_n (pc := 206) (i := 2) (tL_areWalks.at 113 rfl) rfl rfl ?_
        refine r_iload_n (pc := 207) (i := 3) (tL_areWalks.at 114 rfl) rfl rfl ?_
        refine r_iload (pc := 208) (i := 4) (tL_areWalks.at 115 rfl) rfl ?_
        refine r_iconst (pc := 210) (w := nI 1) (tL_areWalks.at 116 rfl) (by decide) ?_
        refine r_callV (M' := mX10_walk) (pc := 211) (tL_areWalks.at 117 rfl) ml_L_99 rfl mw_X10_walk ⟨by decide, by decide⟩ (K1.1.1) rfl rfl (c_walkQ (w := 1) K1 z hl (hcd.fr fr1 hF) (by omega) (by omega) hsd (by omega)) rfl rfl (Nat.le_of_ble_eq_true rfl) (Nat.le_of_ble_eq_true rfl) (Nat.le_of_ble_eq_true rfl) ?_
        rintro _ h2 top2 ⟨rfl, rfl, K2, f2⟩
        rw [hs9, show tdV s9 1 = ((s9.2.1.1 : Nat) : Int) from rfl, zI_nat]
        have fr2 : frT h h2 top x := fun a _ q => (f2 a q).trans (f1 a q)
        refine r_iload (pc := 214) (i := 9) (tL_areWalks.at 118 rfl) rfl ?_
        refine r_icmp_ne (pc := 216) 251 (tL_areWalks.at 119 rfl) (by decide) (fun z => absurd rfl z) (fun _ => ?_)
        refine r_aload_n (pc := 219) (i := 1) (tL_areWalks.at 120 rfl) rfl rfl ?_
        refine r_iload_n (pc := 220) (i := 2) (tL_areWalks.at 121 rfl) rfl rfl ?_
        refine r_iload_n (pc := 221) (i := 3) (tL_areWalks.at 122 rfl) rfl rfl ?_
        refine r_iload (pc := 222) (i := 4) (tL_areWalks.at 123 rfl) rfl ?_
        refine r_iconst (pc := 224) (w := nI 2) (tL_areWalks.at 124 rfl) (by decide) ?_
        refine r_callV (M' := mX10_walk) (pc := 225) (tL_areWalks.at 125 rfl) ml_L_99 rfl mw_X10_walk ⟨by decide, by decide⟩ (K2.1.1) rfl rfl (c_walkQ (w := 2) K2 z hl (hcd.fr fr2 hF) (by omega) (by omega) hsd (by omega)) rfl rfl (Nat.le_of_ble_eq_true rfl) (Nat.le_of_ble_eq_true rfl) (Nat.le_of_ble_eq_true rfl) ?_
        rintro _ h3 top3 ⟨rfl, rfl, K3, f3⟩
        rw [hs9, show tdV s9 2 = ((s9.2.1.2 : Nat) : Int) from rfl, zI_nat]
        have fr3 : frT h h3 top x := fun a i q => (f3 a q).trans (fr2 a i q)
        refine r_iload (pc := 228) (i := 8) (tL_areWalks.at 126 rfl) rfl ?_
        refine r_icmp_ne (pc := 230) 251 (tL_areWalks.at 127 rfl) (by decide) (fun z => absurd rfl z) (fun _ => ?_)
        refine r_aload_n (pc := 233) (i := 1) (tL_areWalks.at 128 rfl) rfl rfl ?_
        refine r_iload_n (pc := 234) (i := 2) (tL_areWalks.at 129 rfl) rfl rfl ?_
        refine r_iload_n (pc := 235) (i := 3) (tL_areWalks.at 130 rfl) rfl rfl ?_
        refine r_iload (pc := 236) (i := 4) (tL_areWalks.at 131 rfl) rfl ?_
        refine r_iconst (pc := 238) (w := nI 3) (tL_areWalks.at 132 rfl) (by decide) ?_
        refine r_callV (M' := mX10_walk) (pc := 239) (tL_areWalks.at 133 rfl) ml_L_99 rfl mw_X10_walk ⟨by decide, by decide⟩ (K3.1.1) rfl rfl (c_walkQ (w := 3) K3 z hl (hcd.fr fr3 hF) (by omega) (by omega) hsd (by omega)) rfl rfl (Nat.le_of_ble_eq_true rfl) (Nat.le_of_ble_eq_true rfl) (Nat.le_of_ble_eq_true rfl) ?_
        rintro _ h4 top4 ⟨rfl, rfl, K4, f4⟩
        rw [hs9, show tdV s9 3 = s9.2.2 from rfl]
        refine r_iload (pc := 242) (i := 10) (tL_areWalks.at 134 rfl) rfl ?_
        refine r_icmp_ne (pc := 244) 251 (tL_areWalks.at 135 rfl) (by decide) (fun z => absurd rfl z) (fun _ => ?_)
        refine r_iconst (pc := 247) (w := nI 1) (tL_areWalks.at 136 rfl) (by decide) ?_
        refine r_goto (pc := 248) 252 (tL_areWalks.at 137 rfl) (by decide) ?_
        refine r_zret (pc := 252) (tL_areWalks.at 139 rfl) rfl rfl (Nat.le_of_ble_eq_true rfl) (Nat.le_of_ble_eq_true rfl) ?_
        exact ⟨rfl, rfl, K4, fun a i q => (f4 a q).trans (fr3 a i q)⟩
      | succ m ih =>
        intro k hk2
        obtain ⟨b1, b2, b3, b4, b5⟩ := wkS_b (W := S.W) (ab := S.a) (T := S.C) hn hf hsd k
        have nx := ih (k + 1) (by omega)
        rw [wkS] at nx
        generalize wkS S.W S.n S.a S.C from_ seed k = s at b1 b2 b3 b4 b5 nx ⊢
        obtain ⟨⟨dr, pl⟩, ⟨sn, ct⟩, su⟩ := s
        dsimp only at b1 b2 b3 b4 b5
        dsimp only
        have hp6 : pl < 6 := by omega
        have hDp := hD pl hp6
        -- behind the draw
        have aft : ∀ dr2 to ct2, drS S.W S.n dr pl = (dr2, to) → to < S.n → ct2 = ct + S.C (pl * 6 + to) → J v mL_areWalks (rmOf 8 0 0) (KM v (fun r h' top' => r = some (.int (nI 1)) ∧ top' = top ∧ okX v h' x Z ∧ frT h h' top x) noX 0 0) top 0 0 h top 158 [some (.ref y), some (.ref x), some (.int (nI from_)), some (.int (nI steps)), some (.int (nI seed)), some (.long (lI (dr2 : Nat))), none, some (.int (nI to)), some (.int (nI ct2)), some (.int (nI sn)), some (.int (zI su)), some (.int (nI (k + 1))), none, none, none, none, none, none] [] := by
          intro dr2 to ct2 hd9 hto hct
          subst hct
          have eN : wkN S.W S.n S.a S.C ((dr, pl), (sn, ct), su) (k + 1) = ((dr2, to), (sn ||| 2 ^ to, ct + S.C (pl * 6 + to)), if su < 0 ∧ S.a.testBit to = true then ((k + 1 : Nat) : Int) else su) := by
            unfold wkN
            simp only [hd9]
          rw [eN] at nx
          dsimp only at nx
          have hp6' : 2 ^ to < 64 := Nat.lt_of_lt_of_le (Nat.pow_lt_pow_right (by omega) (show to < 6 by omega)) (by decide)
          refine r_iload (pc := 158) (i := 9) (tL_areWalks.at 88 rfl) rfl ?_
          refine r_iconst (pc := 160) (w := nI 1) (tL_areWalks.at 89 rfl) (by decide) ?_
          refine r_iload (pc := 161) (i := 7) (tL_areWalks.at 90 rfl) rfl ?_
          refine r_ishl (pc := 163) (tL_areWalks.at 91 rfl) ?_
          rw [bs_one to (by omega)]
          refine r_ior (pc := 164) (tL_areWalks.at 92 rfl) ?_
          rw [bs_or _ b3 _ hp6']
          refine r_istore (pc := 165) (i := 9) (tL_areWalks.at 93 rfl) (by decide) ?_
          refine r_iload (pc := 167) (i := 10) (tL_areWalks.at 94 rfl) rfl ?_
          refine r_if_geZ (pc := 169) 185 (tL_areWalks.at 95 rfl) (by decide) ⟨by omega, by omega⟩ (fun c => ?_) (fun c => ?_)
          · rw [if_neg (by omega)] at nx
            first | refine r_iincN (pc := 185) (tL_areWalks.at 102 rfl) rfl (by decide) ?_ | refine r_iinc (pc := 185) (tL_areWalks.at 102 rfl) rfl rfl (by decide) ?_
            refine r_goto (pc := 188) 34 (tL_areWalks.at 103 rfl) (by decide) ?_
            exact nx
          · refine r_aload_n (pc := 172) (i := 0) (tL_areWalks.at 96 rfl) rfl rfl ?_
            refine r_iload (pc := 173) (i := 7) (tL_areWalks.at 97 rfl) rfl ?_
            refine r_callV (M' := mL_isAbsorbing) (pc := 175) (tL_areWalks.at 98 rfl) ml_L_74 rfl mw_L_isAbsorbing ⟨by decide, by decide⟩ (L.1) rfl rfl (c_lAbs L ha (show to < 6 by omega)) rfl rfl (Nat.le_of_ble_eq_true rfl) (Nat.le_of_ble_eq_true rfl) (Nat.le_of_ble_eq_true rfl) ?_
            rintro _ _ _ ⟨rfl, rfl, rfl⟩
            have htb : Bool.toNat (S.a.testBit to) ≤ 1 := Bool.toNat_le _
            refine r_if_eqN (pc := 178) 185 (tL_areWalks.at 99 rfl) (by decide) (by omega) (fun c2 => ?_) (fun c2 => ?_)
            · rw [if_neg (by intro q; rw [q.2] at c2; cases c2)] at nx
              first | refine r_iincN (pc := 185) (tL_areWalks.at 102 rfl) rfl (by decide) ?_ | refine r_iinc (pc := 185) (tL_areWalks.at 102 rfl) rfl rfl (by decide) ?_
              refine r_goto (pc := 188) 34 (tL_areWalks.at 103 rfl) (by decide) ?_
              exact nx
            · rw [if_pos ⟨c, by cases q : S.a.testBit to <;> simp_all⟩, zI_nat] at nx
              refine r_iload (pc := 181) (i := 11) (tL_areWalks.at 100 rfl) rfl ?_
              refine r_istore (pc := 183) (i := 10) (tL_areWalks.at 101 rfl) (by decide) ?_
              first | refine r_iincN (pc := 185) (tL_areWalks.at 102 rfl) rfl (by decide) ?_ | refine r_iinc (pc := 185) (tL_areWalks.at 102 rfl) rfl rfl (by decide) ?_
              refine r_goto (pc := 188) 34 (tL_areWalks.at 103 rfl) (by decide) ?_
              exact nx
        refine r_iload (pc := 34) (i := 11) (tL_areWalks.at 21 rfl) rfl ?_
        refine r_iload_n (pc := 36) (i := 3) (tL_areWalks.at 22 rfl) rfl rfl ?_
        refine r_icmp_gtN (pc := 37) 191 (tL_areWalks.at 23 rfl) (by decide) (by omega) (by omega) (fun c => by omega) (fun _ => ?_)
        refine r_aload_n (pc := 40) (i := 0) (tL_areWalks.at 24 rfl) rfl rfl ?_
        refine r_get (pc := 41) (tL_areWalks.at 25 rfl) gf_L_17 (L.1) rfl ?_
        refine r_iload (pc := 44) (i := 7) (tL_areWalks.at 26 rfl) rfl ?_
        refine r_iald (pc := 46) (tL_areWalks.at 27 rfl) (L.2.2.2.2.2.1) (pl) (rfl) (by omega) (by omega) ?_
        refine r_if_leN (pc := 47) 158 (tL_areWalks.at 28 rfl) (by decide) (show S.D pl < 2147483648 by omega) (fun c0 => ?_) (fun c0 => ?_)
        · refine aft dr pl ct ?_ b2 (by rw [hCd pl b2]; rfl)
          unfold drS
          rw [if_pos (by rw [← hdg pl b2]; exact c0)]
        · have hn1 := nxD_lt dr
          refine r_lload (pc := 50) (i := 5) (tL_areWalks.at 29 rfl) rfl ?_
          refine r_ldc2 (pc := 52) (tL_areWalks.at 30 rfl) lcL_L_93 ?_
          first | refine r_lmulL (pc := 55) (tL_areWalks.at 31 rfl) ?_ | refine r_lmul (pc := 55) (tL_areWalks.at 31 rfl) ?_
          refine r_ldc2 (pc := 56) (tL_areWalks.at 32 rfl) lcL_L_95 ?_
          first | refine r_laddL (pc := 59) (tL_areWalks.at 33 rfl) ?_ | refine r_ladd (pc := 59) (tL_areWalks.at 33 rfl) ?_
          refine r_ldc2 (pc := 60) (tL_areWalks.at 34 rfl) lcL_L_97 ?_
          refine r_lremL (pc := 63) (tL_areWalks.at 35 rfl) ⟨by omega, by omega⟩ ⟨by omega, by omega⟩ (by omega) ?_
          rw [show ((dr : Int) * 1103515245 + 12345).tmod 2147483648 = ((nxD dr : Nat) : Int) from (Int.ofNat_tmod _ _).symm]
          refine r_lstore (pc := 64) (i := 5) (tL_areWalks.at 36 rfl) (by decide) ?_
          refine r_lload (pc := 66) (i := 5) (tL_areWalks.at 37 rfl) rfl ?_
          refine r_bipush (pc := 68) (w := nI 16) (tL_areWalks.at 38 rfl) (by decide) ?_
          refine r_lshr (pc := 70) (tL_areWalks.at 39 rfl) ?_
          rw [lI_shr16 hn1]
          refine r_aload_n (pc := 71) (i := 0) (tL_areWalks.at 40 rfl) rfl rfl ?_
          refine r_get (pc := 72) (tL_areWalks.at 41 rfl) gf_L_17 (L.1) rfl ?_
          refine r_iload (pc := 75) (i := 7) (tL_areWalks.at 42 rfl) rfl ?_
          refine r_iald (pc := 77) (tL_areWalks.at 43 rfl) (L.2.2.2.2.2.1) (pl) (rfl) (by omega) (by omega) ?_
          refine r_i2lN (pc := 78) (tL_areWalks.at 44 rfl) (show S.D pl < 2147483648 by omega) ?_
          refine r_lremL (pc := 79) (tL_areWalks.at 45 rfl) ⟨by omega, by omega⟩ ⟨by omega, by omega⟩ (by omega) ?_
          rw [show ((nxD dr / 65536 : Nat) : Int).tmod (S.D pl : Nat) = ((nxD dr / 65536 % S.D pl : Nat) : Int) from (Int.ofNat_tmod _ _).symm]
          have hdd : nxD dr / 65536 % S.D pl < S.D pl := Nat.mod_lt _ c0
          have edS : drS S.W S.n dr pl = (nxD dr, wkF S.W S.n pl (nxD dr / 65536 % S.D pl)) := by
            unfold drS
            rw [if_neg (by rw [← hdg pl b2]; omega), hdg pl b2]
          generalize hdw : nxD dr / 65536 % S.D pl = d at hdd edS ⊢
          have hdd2 : d < degN S.W pl S.n := by rw [← hdg pl b2]; exact hdd
          refine r_lstore (pc := 80) (i := 12) (tL_areWalks.at 46 rfl) (by decide) ?_
          refine r_lconst (pc := 82) (w := lI 0) (tL_areWalks.at 47 rfl) (by decide) ?_
          refine r_lstore (pc := 83) (i := 14) (tL_areWalks.at 48 rfl) (by decide) ?_
          refine r_iconst (pc := 85) (w := zI (-1)) (tL_areWalks.at 49 rfl) (by decide) ?_
          refine r_istore (pc := 86) (i := 16) (tL_areWalks.at 50 rfl) (by decide) ?_
          refine r_iconst (pc := 88) (w := nI 0) (tL_areWalks.at 51 rfl) (by decide) ?_
          refine r_istore (pc := 89) (i := 17) (tL_areWalks.at 52 rfl) (by decide) ?_
          have key2 : ∀ u, u ≤ S.n → J v mL_areWalks (rmOf 8 0 0) (KM v (fun r h' top' => r = some (.int (nI 1)) ∧ top' = top ∧ okX v h' x Z ∧ frT h h' top x) noX 0 0) top 0 0 h top 91 [some (.ref y), some (.ref x), some (.int (nI from_)), some (.int (nI steps)), some (.int (nI seed)), some (.long (lI (nxD dr : Nat))), none, some (.int (nI pl)), some (.int (nI ct)), some (.int (nI sn)), some (.int (zI su)), some (.int (nI (k + 1))), some (.long (lI (d : Nat))), none, some (.long (lI (degN S.W pl u : Nat))), none, some (.int (zI (toZ (fun u => decide (d < degN S.W pl (u + 1))) u))), some (.int (nI u))] [] := by
            refine down ?_ ?_
            · have hlt := wkF_lt hdd2
              have e9 : toZ (fun u => decide (d < degN S.W pl (u + 1))) S.n = ((wkF S.W S.n pl d : Nat) : Int) := if_pos hlt
              rw [e9, zI_nat]
              refine r_iload (pc := 91) (i := 17) (tL_areWalks.at 53 rfl) rfl ?_
              refine r_aload_n (pc := 93) (i := 0) (tL_areWalks.at 54 rfl) rfl rfl ?_
              refine r_get (pc := 94) (tL_areWalks.at 55 rfl) gf_L_52 (L.1) rfl ?_
              refine r_icmp_geN (pc := 97) 139 (tL_areWalks.at 56 rfl) (by decide) (by omega) (by omega) (fun _ => ?_) (fun c => by omega)
              generalize hto : wkF S.W S.n pl d = to at hlt edS ⊢
              have hcc := hC (pl * 6 + to) (by omega)
              refine r_iload (pc := 139) (i := 8) (tL_areWalks.at 77 rfl) rfl ?_
              refine r_aload_n (pc := 141) (i := 0) (tL_areWalks.at 78 rfl) rfl rfl ?_
              refine r_get (pc := 142) (tL_areWalks.at 79 rfl) gf_L_14 (L.1) rfl ?_
              refine r_iload (pc := 145) (i := 7) (tL_areWalks.at 80 rfl) rfl ?_
              refine r_aaldQ (pc := 147) (tL_areWalks.at 81 rfl) (L.2.2.2.1) (pl) rfl (by omega) (Nat.le_of_ble_eq_true rfl) ?_
              rw [rwQ_at (by omega)]
              refine r_iload (pc := 148) (i := 16) (tL_areWalks.at 82 rfl) rfl ?_
              refine r_iald (pc := 150) (tL_areWalks.at 83 rfl) (L.2.2.2.2.1 pl hp6) to rfl (by omega) (by omega) ?_
              rw [rowF_at (by omega)]
              refine r_iaddN (pc := 151) (tL_areWalks.at 84 rfl) ?_
              refine r_istore (pc := 152) (i := 8) (tL_areWalks.at 85 rfl) (by decide) ?_
              refine r_iload (pc := 154) (i := 16) (tL_areWalks.at 86 rfl) rfl ?_
              refine r_istore (pc := 156) (i := 7) (tL_areWalks.at 87 rfl) (by decide) ?_
              exact r_sub _ (fun i w hw => by
                match i, hw with
                | 0, hw => exact hw
                | 1, hw => exact hw
                | 2, hw => exact hw
                | 3, hw => exact hw
                | 4, hw => exact hw
                | 5, hw => exact hw
                | 6, hw => cases hw
                | 7, hw => exact hw
                | 8, hw => exact hw
                | 9, hw => exact hw
                | 10, hw => exact hw
                | 11, hw => exact hw
                | 12, hw => cases hw
                | 13, hw => cases hw
                | 14, hw => cases hw
                | 15, hw => cases hw
                | 16, hw => cases hw
                | 17, hw => cases hw) (aft (nxD dr) to (ct + S.C (pl * 6 + to)) edS hlt rfl)
            · intro u hu ih2
              have hw9 := hW (pl * 6 + u) (by omega)
              have hdu := degN_le (x := pl) (n := u + 1) (by omega) (by omega) hW
              have htz := toZ_b (fun u => decide (d < degN S.W pl (u + 1))) u (by omega)
              have es : degN S.W pl (u + 1) = degN S.W pl u + S.W (pl * 6 + u) := rfl
              refine r_iload (pc := 91) (i := 17) (tL_areWalks.at 53 rfl) rfl ?_
              refine r_aload_n (pc := 93) (i := 0) (tL_areWalks.at 54 rfl) rfl rfl ?_
              refine r_get (pc := 94) (tL_areWalks.at 55 rfl) gf_L_52 (L.1) rfl ?_
              refine r_icmp_geN (pc := 97) 139 (tL_areWalks.at 56 rfl) (by decide) (by omega) (by omega) (fun c => by omega) (fun _ => ?_)
              refine r_lload (pc := 100) (i := 14) (tL_areWalks.at 57 rfl) rfl ?_
              refine r_aload_n (pc := 102) (i := 0) (tL_areWalks.at 58 rfl) rfl rfl ?_
              refine r_get (pc := 103) (tL_areWalks.at 59 rfl) gf_L_9 (L.1) rfl ?_
              refine r_iload (pc := 106) (i := 7) (tL_areWalks.at 60 rfl) rfl ?_
              refine r_aaldQ (pc := 108) (tL_areWalks.at 61 rfl) (L.2.1) (pl) rfl (by omega) (Nat.le_of_ble_eq_true rfl) ?_
              rw [rwQ_at (by omega)]
              refine r_iload (pc := 109) (i := 17) (tL_areWalks.at 62 rfl) rfl ?_
              refine r_iald (pc := 111) (tL_areWalks.at 63 rfl) (L.2.2.1 pl hp6) (u) (rfl) (by omega) (by omega) ?_
              rw [rowF_at (by omega)]
              refine r_i2lN (pc := 112) (tL_areWalks.at 64 rfl) (show S.W (pl * 6 + u) < 2147483648 by omega) ?_
              refine r_laddL (pc := 113) (tL_areWalks.at 65 rfl) ?_
              rw [show ((degN S.W pl u : Nat) : Int) + ((S.W (pl * 6 + u) : Nat) : Int) = ((degN S.W pl (u + 1) : Nat) : Int) from by rw [es]; rfl]
              refine r_lstore (pc := 114) (i := 14) (tL_areWalks.at 66 rfl) (by decide) ?_
              refine r_iload (pc := 116) (i := 16) (tL_areWalks.at 67 rfl) rfl ?_
              refine r_if_geZ (pc := 118) 133 (tL_areWalks.at 68 rfl) (by decide) htz (fun c => ?_) (fun c => ?_)
              · rw [toZ_ge c] at ih2
                first | refine r_iincN (pc := 133) (tL_areWalks.at 75 rfl) rfl (by decide) ?_ | refine r_iinc (pc := 133) (tL_areWalks.at 75 rfl) rfl rfl (by decide) ?_
                refine r_goto (pc := 136) 91 (tL_areWalks.at 76 rfl) (by decide) ?_
                exact ih2
              · rw [toZ_lt c] at ih2
                refine r_lload (pc := 121) (i := 14) (tL_areWalks.at 69 rfl) rfl ?_
                refine r_lload (pc := 123) (i := 12) (tL_areWalks.at 70 rfl) rfl ?_
                refine r_lc_le (pc := 125) 133 (tL_areWalks.at 71 rfl) (tL_areWalks.at 72 rfl) (by decide) (⟨by omega, by omega⟩) (⟨by omega, by omega⟩) (fun c3 => ?_) (fun c3 => ?_)
                · have e5 : toZ (fun u => decide (d < degN S.W pl (u + 1))) u = -1 := by
                    unfold toZ at c ⊢
                    split at c
                    · omega
                    · next q => rw [if_neg q]
                  rw [if_neg (by simp; omega), ← e5] at ih2
                  first | refine r_iincN (pc := 133) (tL_areWalks.at 75 rfl) rfl (by decide) ?_ | refine r_iinc (pc := 133) (tL_areWalks.at 75 rfl) rfl rfl (by decide) ?_
                  refine r_goto (pc := 136) 91 (tL_areWalks.at 76 rfl) (by decide) ?_
                  exact ih2
                · rw [if_pos (by simp; omega), zI_nat] at ih2
                  refine r_iload (pc := 129) (i := 17) (tL_areWalks.at 73 rfl) rfl ?_
                  refine r_istore (pc := 131) (i := 16) (tL_areWalks.at 74 rfl) (by decide) ?_
                  first | refine r_iincN (pc := 133) (tL_areWalks.at 75 rfl) rfl (by decide) ?_ | refine r_iinc (pc := 133) (tL_areWalks.at 75 rfl) rfl rfl (by decide) ?_
                  refine r_goto (pc := 136) 91 (tL_areWalks.at 76 rfl) (by decide) ?_
                  exact ih2
          exact key2 0 (by omega)
    exact key steps 0 (by omega)
  have htb : Bool.toNat (S.a.testBit from_) ≤ 1 := Bool.toNat_le _
  refine r_if_eqN (pc := 21) 28 (tL_areWalks.at 14 rfl) (by decide) (by omega) (fun c => ?_) (fun c => ?_)
  · refine r_iconst (pc := 28) (w := zI (-1)) (tL_areWalks.at 17 rfl) (by decide) ?_
    exact fin _ (by rw [if_neg (by intro q; rw [q] at c; cases c)])
  · refine r_iconst (pc := 24) (w := nI 0) (tL_areWalks.at 15 rfl) (by decide) ?_
    refine r_goto (pc := 25) 29 (tL_areWalks.at 16 rfl) (by decide) ?_
    exact fin _ (by rw [if_pos (by cases q : S.a.testBit from_ <;> simp_all)])

