/-! ===== Tokens ===== -/
def sgn (x : Nat) : Int := if x < 128 then x else (x : Int) - 256
def uB (x : Int32) : Nat := x.toBitVec.toNat % 256
theorem uB_lt (x : Int32) : uB x < 256 := Nat.mod_lt _ (by omega)
theorem uB_and (x : Int32) : x &&& nI 255 = nI (uB x) := by
  apply Int32.toBitVec_inj.mp
  apply BitVec.eq_of_toNat_eq
  rw [Int32.toBitVec_and, BitVec.toNat_and]
  show x.toBitVec.toNat &&& 255 = (BitVec.ofNat 32 (uB x)).toNat
  rw [BitVec.toNat_ofNat, show (255 : Nat) = 2 ^ 8 - 1 from rfl, Nat.and_two_pow_sub_one_eq_mod]
  have := uB_lt x
  unfold uB at *
  omega
theorem uB_i2b (x : Int32) : x.toInt8.toInt32 = zI (sgn (uB x)) := by
  show _ = zI (sgn (x.toBitVec.toNat % 256))
  apply Int32.toInt_inj.mp
  rw [zI_toInt (by unfold inI sgn; split <;> omega), Int8.toInt_toInt32, Int32.toInt_toInt8]
  have h1 : x.toInt = x.toBitVec.toInt := rfl
  rw [h1, BitVec.toInt_eq_toNat_bmod]
  have := x.toBitVec.isLt
  generalize x.toBitVec.toNat = n at this ⊢
  unfold sgn Int.bmod
  simp only [show (2 : Nat) ^ 32 = 4294967296 from rfl, show (2 : Nat) ^ 8 = 256 from rfl] at this ⊢
  repeat' split
  all_goals omega
theorem sgn_nar : ∀ n, n < 256 → (zI (sgn n)).toInt8.toInt32 = zI (sgn n) := by decide +kernel
def bF (b : Nat → Nat) : Nat → Int32 := fun k => zI (sgn (b k))
theorem upd_bF (b : Nat → Nat) (i : Nat) (x : Int32) : upd (bF b) i (vp_nar .byte x.toInt8.toInt32) = bF (upN b i (uB x)) := by
  have e : vp_nar .byte x.toInt8.toInt32 = zI (sgn (uB x)) := by
    rw [uB_i2b]
    exact sgn_nar _ (uB_lt x)
  rw [e]
  funext k
  unfold upd bF upN
  split <;> rfl
def tkE (q hd ct : Nat) : va_E := ob 9 [.ref (q + 1), .int (nI hd), .ref (q + 2), .ref (q + 3), .ref (q + 4), .int (nI ct)]
/-- what the tokens hold: bytes, held; kinds, starts, values, count -/
abbrev TK : Type := ((Nat → Nat) × Nat) × ((Nat → Int) × (Nat → Nat) × (Nat → Nat)) × Nat
def tkC (v : Ev) (q : Nat) (t : TK) : Nat → va_E
  | 0 => tkE q t.1.2 t.2.2
  | 1 => aB v 600 (bF t.1.1)
  | 2 => aI v 601 (sF t.2.1.1)
  | 3 => aI v 601 (iF t.2.1.2.1)
  | _ => aI v 601 (iF t.2.1.2.2)
def tkH (v : Ev) (h : Hp) (q : Nat) (t : TK) : Hp := fun p => if q ≤ p ∧ p < q + 5 then some (tkC v q t (p - q)) else h p
section
variable {v : Ev} {h : Hp} {q : Nat} {t : TK}
theorem tkH_0 : tkH v h q t q = some (tkE q t.1.2 t.2.2) := by unfold tkH; rw [if_pos (by omega), Nat.sub_self]; rfl
theorem tkH_1 : tkH v h q t (q + 1) = some (aB v 600 (bF t.1.1)) := by unfold tkH; rw [if_pos (by omega), show q + 1 - q = 1 by omega]; rfl
theorem tkH_2 : tkH v h q t (q + 2) = some (aI v 601 (sF t.2.1.1)) := by unfold tkH; rw [if_pos (by omega), show q + 2 - q = 2 by omega]; rfl
theorem tkH_3 : tkH v h q t (q + 3) = some (aI v 601 (iF t.2.1.2.1)) := by unfold tkH; rw [if_pos (by omega), show q + 3 - q = 3 by omega]; rfl
theorem tkH_4 : tkH v h q t (q + 4) = some (aI v 601 (iF t.2.1.2.2)) := by unfold tkH; rw [if_pos (by omega), show q + 4 - q = 4 by omega]; rfl
theorem tkH_out {p : Nat} (hp : p < q ∨ q + 5 ≤ p) : tkH v h q t p = h p := if_neg (by omega)
theorem tkH_ext {h' : Hp} (h0 : h' q = some (tkE q t.1.2 t.2.2)) (h1 : h' (q + 1) = some (aB v 600 (bF t.1.1))) (h2 : h' (q + 2) = some (aI v 601 (sF t.2.1.1))) (h3 : h' (q + 3) = some (aI v 601 (iF t.2.1.2.1))) (h4 : h' (q + 4) = some (aI v 601 (iF t.2.1.2.2))) (ho : ∀ p, (p < q ∨ q + 5 ≤ p) → h' p = h p) : h' = tkH v h q t := by
  funext p
  by_cases ha : q ≤ p ∧ p < q + 5
  · rcases (show p = q ∨ p = q + 1 ∨ p = q + 2 ∨ p = q + 3 ∨ p = q + 4 by omega) with e | e | e | e | e
    · rw [e, h0, tkH_0]
    · rw [e, h1, tkH_1]
    · rw [e, h2, tkH_2]
    · rw [e, h3, tkH_3]
    · rw [e, h4, tkH_4]
  · rw [ho p (by omega), tkH_out (by omega)]
theorem tkH_p0 (hd ct : Nat) : hp (tkH v h q t) q (tkE q hd ct) = tkH v h q ((t.1.1, hd), t.2.1, ct) :=
  tkH_ext (hp_eq _ _ _) ((hp_ne _ _ (by omega)).trans tkH_1) ((hp_ne _ _ (by omega)).trans tkH_2) ((hp_ne _ _ (by omega)).trans tkH_3) ((hp_ne _ _ (by omega)).trans tkH_4) (fun p hp => (hp_ne _ _ (by omega)).trans (tkH_out hp))
theorem tkH_p1 (b : Nat → Nat) : hp (tkH v h q t) (q + 1) (aB v 600 (bF b)) = tkH v h q ((b, t.1.2), t.2) :=
  tkH_ext ((hp_ne _ _ (by omega)).trans tkH_0) (hp_eq _ _ _) ((hp_ne _ _ (by omega)).trans tkH_2) ((hp_ne _ _ (by omega)).trans tkH_3) ((hp_ne _ _ (by omega)).trans tkH_4) (fun p hp => (hp_ne _ _ (by omega)).trans (tkH_out hp))
theorem tkH_p2 (k : Nat → Int) : hp (tkH v h q t) (q + 2) (aI v 601 (sF k)) = tkH v h q (t.1, (k, t.2.1.2), t.2.2) :=
  tkH_ext ((hp_ne _ _ (by omega)).trans tkH_0) ((hp_ne _ _ (by omega)).trans tkH_1) (hp_eq _ _ _) ((hp_ne _ _ (by omega)).trans tkH_3) ((hp_ne _ _ (by omega)).trans tkH_4) (fun p hp => (hp_ne _ _ (by omega)).trans (tkH_out hp))
theorem tkH_p3 (k : Nat → Nat) : hp (tkH v h q t) (q + 3) (aI v 601 (iF k)) = tkH v h q (t.1, (t.2.1.1, k, t.2.1.2.2), t.2.2) :=
  tkH_ext ((hp_ne _ _ (by omega)).trans tkH_0) ((hp_ne _ _ (by omega)).trans tkH_1) ((hp_ne _ _ (by omega)).trans tkH_2) (hp_eq _ _ _) ((hp_ne _ _ (by omega)).trans tkH_4) (fun p hp => (hp_ne _ _ (by omega)).trans (tkH_out hp))
theorem tkH_p4 (k : Nat → Nat) : hp (tkH v h q t) (q + 4) (aI v 601 (iF k)) = tkH v h q (t.1, (t.2.1.1, t.2.1.2.1, k), t.2.2) :=
  tkH_ext ((hp_ne _ _ (by omega)).trans tkH_0) ((hp_ne _ _ (by omega)).trans tkH_1) ((hp_ne _ _ (by omega)).trans tkH_2) ((hp_ne _ _ (by omega)).trans tkH_3) (hp_eq _ _ _) (fun p hp => (hp_ne _ _ (by omega)).trans (tkH_out hp))
theorem tkH_put {a : Nat} {e : va_E} (ha : a < q ∨ q + 5 ≤ a) : hp (tkH v h q t) a e = tkH v (hp h a e) q t :=
  tkH_ext ((hp_ne _ _ (by omega)).trans tkH_0) ((hp_ne _ _ (by omega)).trans tkH_1) ((hp_ne _ _ (by omega)).trans tkH_2) ((hp_ne _ _ (by omega)).trans tkH_3) ((hp_ne _ _ (by omega)).trans tkH_4) (fun b hb => by
    by_cases e : b = a
    · rw [e, hp_eq, hp_eq]
    · rw [hp_ne _ _ e, hp_ne _ _ e, tkH_out hb])
end
/-- four bytes of a word behind the first n -/
def hld (b : Nat → Nat) (n : Nat) (w : Int32) : Nat → Nat := upN (upN (upN (upN b n (uB (w >>> (nI 24 &&& 31)))) (n + 1) (uB (w >>> (nI 16 &&& 31)))) (n + 2) (uB (w >>> (nI 8 &&& 31)))) (n + 3) (uB (w >>> (nI 0 &&& 31)))
theorem c_hold {v : Ev} {h : Hp} {top q n : Nat} {b : Nat → Nat} {t2 : ((Nat → Int) × (Nat → Nat) × (Nat → Nat)) × Nat} {w : Int32} (hn : n + 4 ≤ 600) : Cal v mX9_hold 1 0 0 [.ref q, .int w] (tkH v h q ((b, n), t2)) top (pV (tkH v h q ((hld b n w, n + 4), t2)) top) noX := by
  refine Cal.ofJ (by decide +kernel) rfl (Nat.le_of_ble_eq_true rfl) fun hz0 => ?_
  refine r_ls [some (.ref q), some (.int w), none] rfl ?_
  generalize hPo : pV (tkH v h q ((hld b n w, n + 4), t2)) top = Po
  have one : ∀ (b : Nat → Nat) m (s : Int32), m < 600 → ¬ s < 0 → J v mX9_hold (rmOf 1 0 0) (KM v Po noX 0 0) top 0 0 (tkH v h q ((upN b m (uB (w >>> (s &&& 31))), m + 1), t2)) top 3 [some (.ref q), some (.int w), some (.int (s + zI (-8)))] [] → J v mX9_hold (rmOf 1 0 0) (KM v Po noX 0 0) top 0 0 (tkH v h q ((b, m), t2)) top 3 [some (.ref q), some (.int w), some (.int s)] [] := by
    intro b m s hm hs kk
    refine r_iload_n (pc := 3) (i := 2) (tX9_hold.at 2 rfl) rfl rfl ?_
    refine r_if_lt (pc := 4) 46 (tX9_hold.at 3 rfl) (by decide) (fun z => absurd z hs) (fun _ => ?_)
    refine r_aload_n (pc := 7) (i := 0) (tX9_hold.at 4 rfl) rfl rfl ?_
    refine r_get (pc := 8) (tX9_hold.at 5 rfl) gf_X9_15 (tkH_0) rfl ?_
    refine r_sipush (pc := 11) (w := nI 600) (tX9_hold.at 6 rfl) (by decide) ?_
    rw [show ((((b, m), t2) : TK).1.2) = m from rfl]
    refine r_icmp_geN (pc := 14) 40 (tX9_hold.at 7 rfl) (by decide) (by omega) (by omega) (fun c => by omega) (fun _ => ?_)
    refine r_aload_n (pc := 17) (i := 0) (tX9_hold.at 8 rfl) rfl rfl ?_
    refine r_get (pc := 18) (tX9_hold.at 9 rfl) gf_X9_9 (tkH_0) rfl ?_
    refine r_aload_n (pc := 21) (i := 0) (tX9_hold.at 10 rfl) rfl rfl ?_
    refine r_get (pc := 22) (tX9_hold.at 11 rfl) gf_X9_15 (tkH_0) rfl ?_
    refine r_iload_n (pc := 25) (i := 1) (tX9_hold.at 12 rfl) rfl rfl ?_
    refine r_iload_n (pc := 26) (i := 2) (tX9_hold.at 13 rfl) rfl rfl ?_
    refine r_ishr (pc := 27) (tX9_hold.at 14 rfl) ?_
    refine r_i2b (pc := 28) (tX9_hold.at 15 rfl) ?_
    rw [show ((((b, m), t2) : TK).1.2) = m from rfl]
    refine r_bast (pc := 29) (tX9_hold.at 16 rfl) tkH_1 m rfl hm (by omega) ?_
    rw [upd_bF, tkH_p1]
    refine r_aload_n (pc := 30) (i := 0) (tX9_hold.at 17 rfl) rfl rfl ?_
    refine r_dup (pc := 31) (tX9_hold.at 18 rfl) rfl ?_
    refine r_get (pc := 32) (tX9_hold.at 19 rfl) gf_X9_15 (tkH_0) rfl ?_
    refine r_iconst (pc := 35) (w := nI 1) (tX9_hold.at 20 rfl) (by decide) ?_
    first | refine r_iaddN (pc := 36) (tX9_hold.at 21 rfl) ?_ | refine r_iaddZ (pc := 36) (tX9_hold.at 21 rfl) ?_ | refine r_iadd (pc := 36) (tX9_hold.at 21 rfl) ?_
    refine r_put (pc := 37) (tX9_hold.at 22 rfl) pf_X9_15 (tkH_0) (Nat.le_of_ble_eq_true rfl) (rfl) (rfl) ?_
    refine r_eq (h2 := tkH v h q ((upN b m (uB (w >>> (s &&& 31))), m + 1), t2)) (tkH_p0 _ _) rfl ?_
    refine r_iinc (pc := 40) (tX9_hold.at 23 rfl) rfl rfl (by decide) ?_
    refine r_goto (pc := 43) 3 (tX9_hold.at 24 rfl) (by decide) ?_
    exact kk
  refine r_bipush (pc := 0) (w := nI 24) (tX9_hold.at 0 rfl) (by decide) ?_
  refine r_istore_n (pc := 2) (i := 2) (tX9_hold.at 1 rfl) rfl (by decide) ?_
  refine one b n (nI 24) (by omega) (by decide) ?_
  rw [show nI 24 + zI (-8) = nI 16 by decide]
  refine one _ (n + 1) (nI 16) (by omega) (by decide) ?_
  rw [show nI 16 + zI (-8) = nI 8 by decide]
  refine one _ (n + 2) (nI 8) (by omega) (by decide) ?_
  rw [show nI 8 + zI (-8) = nI 0 by decide]
  refine one _ (n + 3) (nI 0) (by omega) (by decide) ?_
  refine r_iload_n (pc := 3) (i := 2) (tX9_hold.at 2 rfl) rfl rfl ?_
  refine r_if_lt (pc := 4) 46 (tX9_hold.at 3 rfl) (by decide) (fun _ => ?_) (fun z => absurd (by decide) z)
  refine r_vret (pc := 46) (tX9_hold.at 25 rfl) rfl (Nat.le_of_ble_eq_true rfl) (Nat.le_of_ble_eq_true rfl) ?_
  subst hPo
  exact ⟨rfl, rfl, rfl⟩
def isDg (x : Nat) : Bool := decide (48 ≤ x ∧ x ≤ 57)
def isLt (x : Nat) : Bool := decide (97 ≤ x ∧ x ≤ 122)
theorem c_isDig {v : Ev} {h : Hp} {top x : Nat} (hx : x < 256) : Cal v mX9_isDigit 1 0 0 [.int (zI (sgn x))] h top (pR (.int (nI (Bool.toNat (isDg x)))) h top) noX := by
  have hs : -128 ≤ sgn x ∧ sgn x < 128 := by unfold sgn; split <;> omega
  refine Cal.ofJ (by decide +kernel) rfl (Nat.le_of_ble_eq_true rfl) fun hz0 => ?_
  refine r_ls [some (.int (zI (sgn x)))] rfl ?_
  refine r_iload_n (pc := 0) (i := 0) (tX9_isDigit.at 0 rfl) rfl rfl ?_
  refine r_bipush (pc := 1) (w := nI 48) (tX9_isDigit.at 1 rfl) (by decide) ?_
  rw [show nI 48 = zI 48 from rfl]
  refine r_icmp_ltZ (pc := 3) 16 (tX9_isDigit.at 2 rfl) (by decide) ⟨by omega, by omega⟩ ⟨by omega, by omega⟩ (fun c => ?_) (fun c => ?_)
  · refine r_iconst (pc := 16) (w := nI 0) (tX9_isDigit.at 8 rfl) (by decide) ?_
    refine r_zret (pc := 17) (tX9_isDigit.at 9 rfl) rfl (rfl) (Nat.le_of_ble_eq_true rfl) (Nat.le_of_ble_eq_true rfl) ?_
    rw [show isDg x = false by unfold sgn at c; unfold isDg; split at c <;> (simp; omega)]
    exact ⟨rfl, rfl, rfl⟩
  · refine r_iload_n (pc := 6) (i := 0) (tX9_isDigit.at 3 rfl) rfl rfl ?_
    refine r_bipush (pc := 7) (w := nI 57) (tX9_isDigit.at 4 rfl) (by decide) ?_
    rw [show nI 57 = zI 57 from rfl]
    refine r_icmp_gtZ (pc := 9) 16 (tX9_isDigit.at 5 rfl) (by decide) ⟨by omega, by omega⟩ ⟨by omega, by omega⟩ (fun c2 => ?_) (fun c2 => ?_)
    · refine r_iconst (pc := 16) (w := nI 0) (tX9_isDigit.at 8 rfl) (by decide) ?_
      refine r_zret (pc := 17) (tX9_isDigit.at 9 rfl) rfl (rfl) (Nat.le_of_ble_eq_true rfl) (Nat.le_of_ble_eq_true rfl) ?_
      rw [show isDg x = false by unfold sgn at c2; unfold isDg; split at c2 <;> (simp; omega)]
      exact ⟨rfl, rfl, rfl⟩
    · refine r_iconst (pc := 12) (w := nI 1) (tX9_isDigit.at 6 rfl) (by decide) ?_
      refine r_goto (pc := 13) 17 (tX9_isDigit.at 7 rfl) (by decide) ?_
      refine r_zret (pc := 17) (tX9_isDigit.at 9 rfl) rfl (rfl) (Nat.le_of_ble_eq_true rfl) (Nat.le_of_ble_eq_true rfl) ?_
      rw [show isDg x = true by unfold sgn at c c2; unfold isDg; split at c <;> split at c2 <;> (simp; omega)]
      exact ⟨rfl, rfl, rfl⟩
theorem c_isLet {v : Ev} {h : Hp} {top x : Nat} (hx : x < 256) : Cal v mX9_isLetter 1 0 0 [.int (zI (sgn x))] h top (pR (.int (nI (Bool.toNat (isLt x)))) h top) noX := by
  have hs : -128 ≤ sgn x ∧ sgn x < 128 := by unfold sgn; split <;> omega
  refine Cal.ofJ (by decide +kernel) rfl (Nat.le_of_ble_eq_true rfl) fun hz0 => ?_
  refine r_ls [some (.int (zI (sgn x)))] rfl ?_
  refine r_iload_n (pc := 0) (i := 0) (tX9_isLetter.at 0 rfl) rfl rfl ?_
  refine r_bipush (pc := 1) (w := nI 97) (tX9_isLetter.at 1 rfl) (by decide) ?_
  rw [show nI 97 = zI 97 from rfl]
  refine r_icmp_ltZ (pc := 3) 16 (tX9_isLetter.at 2 rfl) (by decide) ⟨by omega, by omega⟩ ⟨by omega, by omega⟩ (fun c => ?_) (fun c => ?_)
  · refine r_iconst (pc := 16) (w := nI 0) (tX9_isLetter.at 8 rfl) (by decide) ?_
    refine r_zret (pc := 17) (tX9_isLetter.at 9 rfl) rfl (rfl) (Nat.le_of_ble_eq_true rfl) (Nat.le_of_ble_eq_true rfl) ?_
    rw [show isLt x = false by unfold sgn at c; unfold isLt; split at c <;> (simp; omega)]
    exact ⟨rfl, rfl, rfl⟩
  · refine r_iload_n (pc := 6) (i := 0) (tX9_isLetter.at 3 rfl) rfl rfl ?_
    refine r_bipush (pc := 7) (w := nI 122) (tX9_isLetter.at 4 rfl) (by decide) ?_
    rw [show nI 122 = zI 122 from rfl]
    refine r_icmp_gtZ (pc := 9) 16 (tX9_isLetter.at 5 rfl) (by decide) ⟨by omega, by omega⟩ ⟨by omega, by omega⟩ (fun c2 => ?_) (fun c2 => ?_)
    · refine r_iconst (pc := 16) (w := nI 0) (tX9_isLetter.at 8 rfl) (by decide) ?_
      refine r_zret (pc := 17) (tX9_isLetter.at 9 rfl) rfl (rfl) (Nat.le_of_ble_eq_true rfl) (Nat.le_of_ble_eq_true rfl) ?_
      rw [show isLt x = false by unfold sgn at c2; unfold isLt; split at c2 <;> (simp; omega)]
      exact ⟨rfl, rfl, rfl⟩
    · refine r_iconst (pc := 12) (w := nI 1) (tX9_isLetter.at 6 rfl) (by decide) ?_
      refine r_goto (pc := 13) 17 (tX9_isLetter.at 7 rfl) (by decide) ?_
      refine r_zret (pc := 17) (tX9_isLetter.at 9 rfl) rfl (rfl) (Nat.le_of_ble_eq_true rfl) (Nat.le_of_ble_eq_true rfl) ?_
      rw [show isLt x = true by unfold sgn at c c2; unfold isLt; split at c <;> split at c2 <;> (simp; omega)]
      exact ⟨rfl, rfl, rfl⟩
def TK.add (t : TK) (k : Int) (s x : Nat) : TK := (t.1, (upZ t.2.1.1 t.2.2 k, upN t.2.1.2.1 t.2.2 s, upN t.2.1.2.2 t.2.2 x), t.2.2 + 1)
theorem c_tkPut {v : Ev} {h : Hp} {top q s x : Nat} {k : Int} {t : TK} (hc : t.2.2 < 601) : Cal v mX9_put 1 0 0 [.ref q, .int (zI k), .int (nI s), .int (nI x)] (tkH v h q t) top (pV (tkH v h q (t.add k s x)) top) noX := by
  refine Cal.ofJ (by decide +kernel) rfl (Nat.le_of_ble_eq_true rfl) fun hz0 => ?_
  refine r_ls [some (.ref q), some (.int (zI k)), some (.int (nI s)), some (.int (nI x))] rfl ?_
  refine r_aload_n (pc := 0) (i := 0) (tX9_put.at 0 rfl) rfl rfl ?_
  refine r_get (pc := 1) (tX9_put.at 1 rfl) gf_X9_29 (tkH_0) rfl ?_
  refine r_aload_n (pc := 4) (i := 0) (tX9_put.at 2 rfl) rfl rfl ?_
  refine r_get (pc := 5) (tX9_put.at 3 rfl) gf_X9_19 (tkH_0) rfl ?_
  refine r_alenI (pc := 8) (tX9_put.at 4 rfl) (tkH_2) ?_
  refine r_icmp_geN (pc := 9) 52 (tX9_put.at 5 rfl) (by decide) (by omega) (by omega) (fun c => by omega) (fun _ => ?_)
  refine r_aload_n (pc := 12) (i := 0) (tX9_put.at 6 rfl) rfl rfl ?_
  refine r_get (pc := 13) (tX9_put.at 7 rfl) gf_X9_19 (tkH_0) rfl ?_
  refine r_aload_n (pc := 16) (i := 0) (tX9_put.at 8 rfl) rfl rfl ?_
  refine r_get (pc := 17) (tX9_put.at 9 rfl) gf_X9_29 (tkH_0) rfl ?_
  refine r_iload_n (pc := 20) (i := 1) (tX9_put.at 10 rfl) rfl rfl ?_
  refine r_iast (pc := 21) (tX9_put.at 11 rfl) (tkH_2) (t.2.2) (rfl) (by omega) (Nat.le_of_ble_eq_true rfl) ?_
  rw [upd_sF, tkH_p2]
  refine r_aload_n (pc := 22) (i := 0) (tX9_put.at 12 rfl) rfl rfl ?_
  refine r_get (pc := 23) (tX9_put.at 13 rfl) gf_X9_23 (tkH_0) rfl ?_
  refine r_aload_n (pc := 26) (i := 0) (tX9_put.at 14 rfl) rfl rfl ?_
  refine r_get (pc := 27) (tX9_put.at 15 rfl) gf_X9_29 (tkH_0) rfl ?_
  refine r_iload_n (pc := 30) (i := 2) (tX9_put.at 16 rfl) rfl rfl ?_
  refine r_iast (pc := 31) (tX9_put.at 17 rfl) (tkH_3) (t.2.2) (rfl) (by omega) (Nat.le_of_ble_eq_true rfl) ?_
  rw [upd_iF, tkH_p3]
  refine r_aload_n (pc := 32) (i := 0) (tX9_put.at 18 rfl) rfl rfl ?_
  refine r_get (pc := 33) (tX9_put.at 19 rfl) gf_X9_26 (tkH_0) rfl ?_
  refine r_aload_n (pc := 36) (i := 0) (tX9_put.at 20 rfl) rfl rfl ?_
  refine r_get (pc := 37) (tX9_put.at 21 rfl) gf_X9_29 (tkH_0) rfl ?_
  refine r_iload_n (pc := 40) (i := 3) (tX9_put.at 22 rfl) rfl rfl ?_
  refine r_iast (pc := 41) (tX9_put.at 23 rfl) (tkH_4) (t.2.2) (rfl) (by omega) (Nat.le_of_ble_eq_true rfl) ?_
  rw [upd_iF, tkH_p4]
  refine r_aload_n (pc := 42) (i := 0) (tX9_put.at 24 rfl) rfl rfl ?_
  refine r_dup (pc := 43) (tX9_put.at 25 rfl) rfl ?_
  refine r_get (pc := 44) (tX9_put.at 26 rfl) gf_X9_29 (tkH_0) rfl ?_
  refine r_iconst (pc := 47) (w := nI 1) (tX9_put.at 27 rfl) (by decide) ?_
  first | refine r_iaddN (pc := 48) (tX9_put.at 28 rfl) ?_ | refine r_iaddZ (pc := 48) (tX9_put.at 28 rfl) ?_ | refine r_iadd (pc := 48) (tX9_put.at 28 rfl) ?_
  refine r_put (pc := 49) (tX9_put.at 29 rfl) pf_X9_29 (tkH_0) (Nat.le_of_ble_eq_true rfl) (rfl) (rfl) ?_
  refine r_eq (h2 := tkH v h q (t.add k s x)) (tkH_p0 _ _) rfl ?_
  refine r_vret (pc := 52) (tX9_put.at 30 rfl) rfl (Nat.le_of_ble_eq_true rfl) (Nat.le_of_ble_eq_true rfl) ?_
  exact ⟨rfl, rfl, rfl⟩

