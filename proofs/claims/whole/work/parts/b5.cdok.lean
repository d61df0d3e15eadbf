/-! ===== the codes worth the same on both sides ===== -/
theorem seg_le {f : Nat → Nat} {b m : Nat} (h : seg f 0 b m) : ∀ k, k ≤ b → lnC f k ≤ m
  | 0, _ => Nat.zero_le _
  | k + 1, hk => by
    have := (h.2.2 k (Nat.zero_le _) (by omega)).2.2
    have e : lnC f 0 = 0 := rfl
    omega
theorem mev_ln {f : Nat → Nat} {b m wt x y : Nat} (h : seg f 0 b m) : ∀ k, k ≤ b → (mev (cK f) (cW f) wt x y k).length = lnC f k
  | 0, _ => rfl
  | k + 1, hk => by
    have ih := mev_ln (wt := wt) (x := x) (y := y) h k (by omega)
    obtain ⟨-, h2, -⟩ := h.2.2 k (Nat.zero_le _) (by omega)
    rw [lnC]
    by_cases c : cK f k = 0 ∨ cK f k = 5
    · rw [if_pos c, mev_pu c, List.length_cons, ih]
    · rw [if_neg c]
      have h2' := h2 c
      have e : lnC f 0 = 0 := rfl
      match hL : mev (cK f) (cW f) wt x y k with
      | [] => rw [hL] at ih; have : (0 : Nat) = lnC f k := ih; omega
      | [r] => rw [hL] at ih; have : (1 : Nat) = lnC f k := ih; omega
      | r :: l :: t =>
        rw [mev_op c hL]
        rw [hL] at ih
        have ih' : t.length + 1 + 1 = lnC f k := ih
        show t.length + 1 = _
        omega
theorem cl_wi (x : Int) : clM x = wiI x 1000000 := by
  unfold clM wiI
  split
  · omega
  · split <;> omega
theorem opd_M {k w wt x y : Nat} (hk : k = 0 ∨ k = 5) (h5 : k = 5 → w ≤ 2) : -4 < cdv k w ∧ opd (cdv k w) wt x y = (opdM k w wt x y : Nat) := by
  unfold cdv opd opdM
  rcases hk with rfl | rfl
  · rw [if_pos rfl, if_pos rfl, if_neg (by omega), if_neg (by omega), if_neg (by omega)]
    exact ⟨by omega, rfl⟩
  · have := h5 rfl
    rw [if_neg (show ¬ (5 : Nat) = 0 by omega), if_pos (show (5 : Nat) = 5 from rfl), if_neg (show ¬ (5 : Nat) = 0 by omega)]
    refine ⟨by omega, ?_⟩
    rcases (show w = 0 ∨ w = 1 ∨ w = 2 by omega) with rfl | rfl | rfl
    · rw [if_pos (by omega), if_pos rfl]
    · rw [if_neg (by omega), if_pos (by omega), if_neg (by omega), if_pos rfl]
    · rw [if_neg (by omega), if_neg (by omega), if_pos (by omega), if_neg (by omega), if_neg (by omega)]
theorem op_M {k w : Nat} {l r : Int} (hk : 1 ≤ k ∧ k ≤ 4) : cdv k w ≤ -4 ∧ opI (cdv k w) l r = opM k l r := by
  unfold cdv opI opM
  rw [if_neg (by omega), if_neg (by omega)]
  refine ⟨by omega, ?_⟩
  rcases (show k = 1 ∨ k = 2 ∨ k = 3 ∨ k = 4 by omega) with rfl | rfl | rfl | rfl
  · rfl
  · rfl
  · rfl
  · rfl
theorem ev_mev {f : Nat → Nat} {cc : Nat → Int} {b wt x y : Nat} (h : seg f 0 b 11) (hcc : ∀ k, k < b → cc k = cdv (cK f k) (cW f k)) : ∀ k, k ≤ b → evL wt x y cc k = mev (cK f) (cW f) wt x y k
  | 0, _ => rfl
  | k + 1, hk => by
    have ih := ev_mev (wt := wt) (x := x) (y := y) h hcc k (by omega)
    have ln := mev_ln (wt := wt) (x := x) (y := y) h k (by omega)
    have le := seg_le h k (by omega)
    obtain ⟨⟨g1, g2, g3⟩, h2, -⟩ := h.2.2 k (Nat.zero_le _) (by omega)
    rw [evL, ih, hcc k (by omega)]
    by_cases c : cK f k = 0 ∨ cK f k = 5
    · obtain ⟨o1, o2⟩ := opd_M (wt := wt) (x := x) (y := y) c g3
      rw [mev_pu c, evS_pu o1 (by omega), o2]
    · have h2' := h2 c
      have e : lnC f 0 = 0 := rfl
      match hL : mev (cK f) (cW f) wt x y k with
      | [] => rw [hL] at ln; have : (0 : Nat) = lnC f k := ln; omega
      | [r] => rw [hL] at ln; have : (1 : Nat) = lnC f k := ln; omega
      | r :: l :: t =>
        obtain ⟨o1, o2⟩ := op_M (k := cK f k) (w := cW f k) (l := l) (r := r) (by omega)
        rw [mev_op c hL, evS_op o1, o2, cl_wi]
theorem cl_N (x : Int) : (max 0 (min 99 x)).toNat = clN x := by
  unfold clN
  split
  · omega
  · split <;> omega
/-- codes worth the same, for any weight -/
def cdA (S : MS) (cn : Nat) (cc : Nat → Int) : Prop := okCd S ∧ ∀ wt x y, S.mcs wt x y = cst (fun _ => wt) cc cn x y
theorem cst_W {W W2 : Nat → Nat} {c : Nat → Int} {n x y : Nat} (h : W (x * 6 + y) = W2 (x * 6 + y)) : cst W c n x y = cst W2 c n x y := by
  unfold cst
  rw [h]
theorem cdA.ok {S : MS} {cn : Nat} {cc : Nat → Int} (k : cdA S cn cc) (G : GT) : cdOk S G cn cc := ⟨k.1, fun x y _ _ => (k.2 _ x y).trans (cst_W rfl)⟩
theorem cdA.row {S S' : MS} {cn : Nat} {cc : Nat → Int} (k : cdA S cn cc) (h : ∀ k, k < 1240 → (k = 3 ∨ 56 ≤ k) → S'.rw k = S.rw k) : cdA S' cn cc := by
  obtain ⟨d1, d2⟩ := cd_row h k.1
  exact ⟨d1, fun wt x y => (d2 wt x y).trans (k.2 wt x y)⟩
/-- no codes: a cost of 1 -/
theorem cdA_0 {S : MS} (h : S.rw 3 = 0) {cc : Nat → Int} (hc : cc 0 = 1) : cdA S 1 cc := by
  refine ⟨⟨by omega, fun k hk => by omega, fun k _ _ _ hk => by omega⟩, fun wt x y => ?_⟩
  unfold MS.mcs cst
  rw [if_pos h]
  show 1 = (max 0 (min 99 (evV (evS _ _ _ (cc 0) [])))).toNat
  rw [hc]
  rfl
theorem ld_cdA {S' T : MS} {X : RD} (i : I1 T) (hc : X.hc = T.hco) (cd : T.hco = 1 → CdR X T.red) (co : CO T) (hr : ∀ k, k < 1240 → (k = 3 ∨ 56 ≤ k) → S'.rw k = T.red k) : cdA S' (cdN X) (cdC X) := by
  have h590 := i.2.1.2.2.2.1
  have r3 : S'.rw 3 = T.red 3 := hr 3 (by omega) (Or.inl rfl)
  have hk : ∀ k, k < T.red 3 → cK S'.rw k = cK T.red k ∧ cW S'.rw k = cW T.red k := fun k hk => ⟨hr _ (by omega) (Or.inr (by omega)), hr _ (by omega) (Or.inr (by omega))⟩
  by_cases c : T.hco = 0
  · have z3 := i.2.2.2.1.2 c
    rw [z3] at r3
    have c' : X.hc = 0 := hc.trans c
    have en : cdN X = 1 := if_pos c'
    have ec : cdC X 0 = 1 := if_pos c'
    rw [en]
    exact cdA_0 r3 ec
  · have c1 : T.hco = 1 := by have := i.2.2.2.1.1; omega
    have c' : X.hc = 1 := hc.trans c1
    obtain ⟨d1, d2⟩ := cd c1
    have sg : seg S'.rw 0 (T.red 3) 11 := (co c1).cong hk
    have en : cdN X = T.red 3 := by
      unfold cdN
      rw [if_neg (by omega), d1]
    have ec : ∀ k, k < T.red 3 → cdC X k = cdv (cK S'.rw k) (cW S'.rw k) := fun k h => by
      unfold cdC
      rw [if_neg (by omega), if_pos (by omega), d2 k (by omega), (hk k h).1, (hk k h).2]
      rfl
    refine ⟨⟨by omega, fun k h => ?_, fun k wt x y h z => ?_⟩, fun wt x y => ?_⟩
    · have := (sg.2.2 k (Nat.zero_le _) (by omega)).1
      exact ⟨this.1, this.2.1⟩
    · rw [r3] at h
      have a := (sg.2.2 k (Nat.zero_le _) h).2.1 z
      have b := mev_ln (wt := wt) (x := x) (y := y) sg k (by omega)
      have e : lnC S'.rw 0 = 0 := rfl
      show 2 ≤ (mev (cK S'.rw) (cW S'.rw) wt x y k).length
      omega
    · have e := ev_mev (wt := wt) (x := x) (y := y) sg ec (T.red 3) (Nat.le_refl _)
      have p := sg.1
      unfold MS.mcs cst
      rw [if_neg (by omega), r3, en, e, cl_N]
      rfl

