/-! ===== the law's body: what its steps stand on ===== -/
section
variable {v : Ev} {h : Hp} {y : Nat} {S : LT}
theorem rowF_up {W : Nat → Nat} {i a b x : Nat} (hb : b < 6) : (if i = a then upd (rowF W a) b (nI x) else rowF W i) = rowF (upN W (a * 6 + b) x) i := by
  by_cases c : i = a
  · rw [if_pos c, c]
    funext j
    unfold upd rowF upN
    by_cases d : j = b
    · rw [if_pos d, if_pos (by omega), if_pos (by omega)]
    · rw [if_neg d]
      by_cases e : j < 6
      · rw [if_pos e, if_pos e, if_neg (by omega)]
      · rw [if_neg e, if_neg e]
  · rw [if_neg c]
    funext j
    unfold rowF upN
    by_cases e : j < 6
    · rw [if_pos e, if_pos e, if_neg (by omega)]
    · rw [if_neg e, if_neg e]
def LT.sW (S : LT) (W : Nat → Nat) : LT := (S.1, W, S.2.2)
def LT.sC (S : LT) (C : Nat → Nat) : LT := (S.1, S.W, C, S.2.2.2)
def LT.sD (S : LT) (D : Nat → Nat) : LT := (S.1, S.W, S.C, D, S.2.2.2.2)
def LT.sE (S : LT) (E : Nat → Nat) : LT := (S.1, S.W, S.C, S.D, E, S.T)
def LT.sT (S : LT) (T : Nat → Nat) : LT := (S.1, S.W, S.C, S.D, S.E, T)
def LT.sH (S : LT) (n e a : Nat) : LT := ((n, e, a), S.2)
theorem isLw.pW (L : isLw v h y S) {a b x : Nat} (ha : a < 6) (hb : b < 6) : isLw v (hp h (y + 1 + 1 + a) (aI v 6 (upd (rowF S.W a) b (nI x)))) y (S.sW (upN S.W (a * 6 + b) x)) := by
  obtain ⟨h1, h2, h3, h4, h5, h6, h7, h8⟩ := L
  refine ⟨(hp_ne _ _ (by omega)).trans h1, (hp_ne _ _ (by omega)).trans h2, fun i hi => ?_, (hp_ne _ _ (by omega)).trans h4, fun i hi => (hp_ne _ _ (by omega)).trans (h5 i hi), (hp_ne _ _ (by omega)).trans h6, (hp_ne _ _ (by omega)).trans h7, (hp_ne _ _ (by omega)).trans h8⟩
  show _ = some (aI v 6 (rowF (upN S.W (a * 6 + b) x) i))
  rw [← rowF_up hb]
  by_cases c : i = a
  · rw [if_pos c, c, hp_eq]
  · rw [if_neg c, hp_ne _ _ (by omega)]
    exact h3 i hi
theorem isLw.pC (L : isLw v h y S) {a b x : Nat} (ha : a < 6) (hb : b < 6) : isLw v (hp h (y + 8 + 1 + a) (aI v 6 (upd (rowF S.C a) b (nI x)))) y (S.sC (upN S.C (a * 6 + b) x)) := by
  obtain ⟨h1, h2, h3, h4, h5, h6, h7, h8⟩ := L
  refine ⟨(hp_ne _ _ (by omega)).trans h1, (hp_ne _ _ (by omega)).trans h2, fun i hi => (hp_ne _ _ (by omega)).trans (h3 i hi), (hp_ne _ _ (by omega)).trans h4, fun i hi => ?_, (hp_ne _ _ (by omega)).trans h6, (hp_ne _ _ (by omega)).trans h7, (hp_ne _ _ (by omega)).trans h8⟩
  show _ = some (aI v 6 (rowF (upN S.C (a * 6 + b) x) i))
  rw [← rowF_up hb]
  by_cases c : i = a
  · rw [if_pos c, c, hp_eq]
  · rw [if_neg c, hp_ne _ _ (by omega)]
    exact h5 i hi
theorem isLw.pD (L : isLw v h y S) {u x : Nat} : isLw v (hp h (y + 15) (aI v 6 (upd (iF S.D) u (nI x)))) y (S.sD (upN S.D u x)) := by
  obtain ⟨h1, h2, h3, h4, h5, h6, h7, h8⟩ := L
  refine ⟨(hp_ne _ _ (by omega)).trans h1, (hp_ne _ _ (by omega)).trans h2, fun i hi => (hp_ne _ _ (by omega)).trans (h3 i hi), (hp_ne _ _ (by omega)).trans h4, fun i hi => (hp_ne _ _ (by omega)).trans (h5 i hi), ?_, (hp_ne _ _ (by omega)).trans h7, (hp_ne _ _ (by omega)).trans h8⟩
  rw [hp_eq, upd_iF]
  rfl
theorem isLw.pE (L : isLw v h y S) {u x : Nat} : isLw v (hp h (y + 16) (aI v 30 (upd (iF S.E) u (nI x)))) y (S.sE (upN S.E u x)) := by
  obtain ⟨h1, h2, h3, h4, h5, h6, h7, h8⟩ := L
  refine ⟨(hp_ne _ _ (by omega)).trans h1, (hp_ne _ _ (by omega)).trans h2, fun i hi => (hp_ne _ _ (by omega)).trans (h3 i hi), (hp_ne _ _ (by omega)).trans h4, fun i hi => (hp_ne _ _ (by omega)).trans (h5 i hi), (hp_ne _ _ (by omega)).trans h6, ?_, (hp_ne _ _ (by omega)).trans h8⟩
  rw [hp_eq, upd_iF]
  rfl
theorem isLw.pT (L : isLw v h y S) {u x : Nat} : isLw v (hp h (y + 17) (aI v 15 (upd (iF S.T) u (nI x)))) y (S.sT (upN S.T u x)) := by
  obtain ⟨h1, h2, h3, h4, h5, h6, h7, h8⟩ := L
  refine ⟨(hp_ne _ _ (by omega)).trans h1, (hp_ne _ _ (by omega)).trans h2, fun i hi => (hp_ne _ _ (by omega)).trans (h3 i hi), (hp_ne _ _ (by omega)).trans h4, fun i hi => (hp_ne _ _ (by omega)).trans (h5 i hi), (hp_ne _ _ (by omega)).trans h6, (hp_ne _ _ (by omega)).trans h7, ?_⟩
  rw [hp_eq, upd_iF]
  rfl
theorem isLw.pH (L : isLw v h y S) (n e a : Nat) : isLw v (hp h y (ltE y (S.sH n e a))) y (S.sH n e a) := by
  obtain ⟨h1, h2, h3, h4, h5, h6, h7, h8⟩ := L
  exact ⟨hp_eq _ _ _, (hp_ne _ _ (by omega)).trans h2, fun i hi => (hp_ne _ _ (by omega)).trans (h3 i hi), (hp_ne _ _ (by omega)).trans h4, fun i hi => (hp_ne _ _ (by omega)).trans (h5 i hi), (hp_ne _ _ (by omega)).trans h6, (hp_ne _ _ (by omega)).trans h7, (hp_ne _ _ (by omega)).trans h8⟩
/-- another picture of the same cells -/
theorem isLw.like {S' : LT} (L : isLw v h y S) (e1 : S'.1 = S.1) (eW : ∀ k, k < 36 → S'.W k = S.W k) (eC : ∀ k, k < 36 → S'.C k = S.C k) (eR : S'.2.2.2 = S.2.2.2) : isLw v h y S' := by
  obtain ⟨h1, h2, h3, h4, h5, h6, h7, h8⟩ := L
  have er : ∀ {W W' : Nat → Nat}, (∀ k, k < 36 → W' k = W k) → ∀ i, i < 6 → rowF W' i = rowF W i := by
    intro W W' e i hi
    funext j
    unfold rowF
    by_cases c : j < 6
    · rw [if_pos c, if_pos c, e _ (by omega)]
    · rw [if_neg c, if_neg c]
  have eD : S'.D = S.D := congrArg (fun x => x.1) eR
  have eE : S'.E = S.E := congrArg (fun x => x.2.1) eR
  have eT : S'.T = S.T := congrArg (fun x => x.2.2) eR
  refine ⟨?_, h2, fun i hi => by rw [er eW i hi]; exact h3 i hi, h4, fun i hi => by rw [er eC i hi]; exact h5 i hi, by rw [eD]; exact h6, by rw [eE]; exact h7, by rw [eT]; exact h8⟩
  rw [h1]
  unfold ltE LT.n LT.e LT.a
  rw [e1]
end
theorem isSB.up {v : Ev} {h h' : Hp} {lo b : Nat} {L : List Nat} (sb : isSB v h lo b L) (hh : ∀ a, lo ≤ a → h' a = h a) : isSB v h' lo b L := by
  obtain ⟨l0, val, cap, f, l1, l2, hb, hv, r⟩ := sb
  exact ⟨l0, val, cap, f, l1, l2, (hh _ l0).trans hb, (hh _ l2).trans hv, r⟩
theorem loS_lit {v : Ev} {h : Hp} {lo i : Nat} {L : List Nat} (hi : stRead i = true) (e : stText i = L) : loS v h (oA v (i + 1)) lo L := Or.inl ⟨i, hi, rfl, e.symm⟩
theorem okTx_of {L : List Nat} (h : L.length ≤ 1000) (h2 : ∀ x ∈ L, x < 128) : okTx L := ⟨h, fun j hj => by
  simp only [List.getD, List.getElem?_eq_getElem hj, Option.getD_some]
  exact h2 _ (List.getElem_mem hj)⟩
theorem zI_natA {k : Int} (h : 0 ≤ k) : zI k = nI k.toNat := by
  rw [← zI_nat, Int.toNat_of_nonneg h]
theorem nI_half {w : Nat} (hw : w < 100) : nI w / nI 2 = nI (w / 2) := by
  have : ∀ w, w < 100 → nI w / nI 2 = nI (w / 2) := by decide +kernel
  exact this w hw
theorem nI_subI (a b : Nat) : nI a - nI b = zI ((a : Int) - b) := by
  rw [← zI_nat, ← zI_nat, zI_sub]
theorem kst_z (x y w : Nat) : zI (max 0 (min 99 (3 * (y : Int) - x + (w / 2 : Nat)))) = nI (kst x y w) := zI_natA (by omega)
section
variable {v : Ev} {M : Md} {R : Room} {K : List Frame → Array Value → State → State → Prop} {t0 cells slots : Nat} {h : Hp} {top pc : Nat} {ls : List (Option Value)} {st : List Value}
theorem mw_abs_s : Cond.static Lib.Math.abs.name ∈ big := big_at 1004 (by decide +kernel) rfl
theorem mw_abs_c : Cond.code Lib.Math.abs.name Lib.Math.abs.code 1 (some .int) ∈ big := big_at 1005 (by decide +kernel) rfl
theorem zI_abs {z : Int} (hz : -2000000 ≤ z ∧ z ≤ 2000000) : (if 0 ≤ zI z then zI z else 0 - zI z) = nI z.natAbs := by
  by_cases c : 0 ≤ z
  · rw [if_pos (by
      rw [show (0 : Int32) = zI 0 from rfl]
      exact (zI_le ⟨by omega, by omega⟩ ⟨by omega, by omega⟩).mpr c), zI_natA c, show z.toNat = z.natAbs by omega]
  · rw [if_neg (fun k => c (by
      rw [show (0 : Int32) = zI 0 from rfl] at k
      exact (zI_le ⟨by omega, by omega⟩ ⟨by omega, by omega⟩).mp k)), show (0 : Int32) = zI 0 from rfl, zI_sub, show (0 - z) = ((z.natAbs : Nat) : Int) by omega, zI_nat]
theorem r_mabsI {idx : Nat} {z : Int} (d : decode M.2.1 pc = .ok (.invokestatic idx, 3)) (w1 : Cond.methodLink M.1.cls idx Lib.Math.abs.name ∈ big) (hf : 1 ≤ R.frames) (hl2 : (st.map fun w => w.category).sum + 13 ≤ R.locals) (hc : cells ≤ R.cells) (hs : slots ≤ R.slots) (hz : -2000000 ≤ z ∧ z ≤ 2000000)
    (kk : J v M R K t0 cells slots h top (pc + 3) ls (.int (nI z.natAbs) :: st)) : J v M R K t0 cells slots h top pc ls (.int (zI z) :: st) := by
  intro p l e s m args below meth c F H locs A hz1 hH hS hl
  refine va_mabs F.1 F.2.1 (F.2.2.1.trans hl.1.symm) F.2.2.2.1 (F.ht _ w1) (F.ht _ mw_abs_s) (F.ht _ mw_math) (F.ht _ mw_abs_c) hf hl2 hc hs d ?_
  rw [zI_abs hz]
  exact kk p l e s m args below meth c F H locs A hz1 hH hS hl
end
/-- the rest of an int by a million -/
theorem mil_rem (x : Int32) : ∃ z : Int, -1000000 < z ∧ z < 1000000 ∧ x - x / 1000000 * 1000000 = zI z := by
  refine ⟨x.toInt.tmod 1000000, Int.lt_tmod_of_pos x.toInt (by decide), Int.tmod_lt_of_pos x.toInt (by decide), ?_⟩
  have hx := Int32.le_toInt x
  have hx2 := Int32.toInt_lt x
  have ex : zI x.toInt = x := Int32.ofInt_toInt x
  have eq : x / 1000000 = zI (x.toInt.tdiv 1000000) := by
    apply Int32.toInt_inj.mp
    have hb : -2147483648 ≤ x.toInt.tdiv 1000000 ∧ x.toInt.tdiv 1000000 < 2147483648 := by
      have h1 := Int.mul_tdiv_add_tmod x.toInt 1000000
      have h2 := Int.lt_tmod_of_pos x.toInt (show (0 : Int) < 1000000 by decide)
      have h3 := Int.tmod_lt_of_pos x.toInt (show (0 : Int) < 1000000 by decide)
      omega
    rw [Int32.toInt_div, zI_toInt ⟨by omega, by omega⟩, show (1000000 : Int32).toInt = 1000000 by decide]
    rw [Int.bmod_eq_of_le] <;> omega
  rw [eq, show (1000000 : Int32) = zI 1000000 from rfl, Int.tmod_def, Int.mul_comm]
  generalize x.toInt = X at ex ⊢
  rw [← ex, zI_mul, zI_sub]

