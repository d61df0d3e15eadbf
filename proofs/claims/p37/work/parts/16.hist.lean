/-! ===== Graph's constructor, History ===== -/
def G0 (v : Ev) : GT := ((0, 0, 0, 0), (fun _ => 0, fun _ => 0, fun _ => 0, fun _ => 0, fun _ => 0), oA v 0)
def gNew : List Value := [.int 0, .int 0, .int 0, .int 0, .null, .null, .null, .null, .null, .null]
def pT (h : Hp) (top : Nat) : Option Value → Hp → Nat → Prop := fun r h' top' => r = none ∧ h = h' ∧ top = top'
theorem c_gInit {v : Ev} {h : Hp} {g : Nat} (hg : h g = some (ob 3 gNew)) : Cal v mX3_init 1 5 78 [.ref g] h (g + 1) (pT (gH v h g (G0 v)) (g + 6)) noX := by
  refine Cal.ofJ (by decide +kernel) rfl (Nat.le_of_ble_eq_true rfl) fun hz0 => ?_
  refine r_ls [some (.ref g)] rfl ?_
  have e0 : ∀ (h : Hp) (x : va_E), hp h g x g = some x := fun h x => hp_eq h g x
  have e1 : ∀ (h : Hp) (k : Nat) (x y : va_E), hp (hp h g x) (g + 1 + k) y g = some x := fun h k x y => (hp_ne _ _ (by omega)).trans (hp_eq _ _ _)
  refine r_aload_n (pc := 0) (i := 0) (tX3_init.at 0 rfl) rfl rfl ?_
  refine r_objInit (pc := 1) (tX3_init.at 1 rfl) ml_X3_3 oi_inst oi_code (Nat.le_of_ble_eq_true rfl) (Nat.le_of_ble_eq_true rfl) ?_
  refine r_aload_n (pc := 4) (i := 0) (tX3_init.at 2 rfl) rfl rfl ?_
  refine r_iconst (pc := 5) (w := nI 0) (tX3_init.at 3 rfl) (by decide) ?_
  refine r_put (pc := 6) (tX3_init.at 4 rfl) pf_X3_9 (hg) (Nat.le_of_ble_eq_true rfl) (rfl) (rfl) ?_
  refine r_aload_n (pc := 9) (i := 0) (tX3_init.at 5 rfl) rfl rfl ?_
  refine r_iconst (pc := 10) (w := nI 0) (tX3_init.at 6 rfl) (by decide) ?_
  refine r_put (pc := 11) (tX3_init.at 7 rfl) pf_X3_15 (e0 _ _) (Nat.le_of_ble_eq_true rfl) (rfl) (rfl) ?_
  refine r_aload_n (pc := 14) (i := 0) (tX3_init.at 8 rfl) rfl rfl ?_
  refine r_iconst (pc := 15) (w := nI 0) (tX3_init.at 9 rfl) (by decide) ?_
  refine r_put (pc := 16) (tX3_init.at 10 rfl) pf_X3_18 (e0 _ _) (Nat.le_of_ble_eq_true rfl) (rfl) (rfl) ?_
  refine r_aload_n (pc := 19) (i := 0) (tX3_init.at 11 rfl) rfl rfl ?_
  refine r_iconst (pc := 20) (w := nI 0) (tX3_init.at 12 rfl) (by decide) ?_
  refine r_put (pc := 21) (tX3_init.at 13 rfl) pf_X3_21 (e0 _ _) (Nat.le_of_ble_eq_true rfl) (rfl) (rfl) ?_
  refine r_aload_n (pc := 24) (i := 0) (tX3_init.at 14 rfl) rfl rfl ?_
  refine r_bipush (pc := 25) (w := nI 15) (tX3_init.at 15 rfl) (by decide) ?_
  refine r_newaI (pc := 27) (15) (tX3_init.at 16 rfl) (rfl) (Nat.le_of_ble_eq_true rfl) ac_int (Nat.le_of_ble_eq_true rfl) (Nat.le_of_ble_eq_true rfl) (fun fr27 => ?_)
  refine r_putF (pc := 29) (tX3_init.at 17 rfl) pff_X3_24 rfl (e1 _ 0 _ _) (Nat.le_of_ble_eq_true rfl) rfl rfl ?_
  refine r_aload_n (pc := 32) (i := 0) (tX3_init.at 18 rfl) rfl rfl ?_
  refine r_bipush (pc := 33) (w := nI 15) (tX3_init.at 19 rfl) (by decide) ?_
  refine r_newaI (pc := 35) (15) (tX3_init.at 20 rfl) (rfl) (Nat.le_of_ble_eq_true rfl) ac_int (Nat.le_of_ble_eq_true rfl) (Nat.le_of_ble_eq_true rfl) (fun fr35 => ?_)
  refine r_putF (pc := 37) (tX3_init.at 21 rfl) pff_X3_28 rfl (e1 _ 1 _ _) (Nat.le_of_ble_eq_true rfl) rfl rfl ?_
  refine r_aload_n (pc := 40) (i := 0) (tX3_init.at 22 rfl) rfl rfl ?_
  refine r_bipush (pc := 41) (w := nI 36) (tX3_init.at 23 rfl) (by decide) ?_
  refine r_newaI (pc := 43) (36) (tX3_init.at 24 rfl) (rfl) (Nat.le_of_ble_eq_true rfl) ac_int (Nat.le_of_ble_eq_true rfl) (Nat.le_of_ble_eq_true rfl) (fun fr43 => ?_)
  refine r_putF (pc := 45) (tX3_init.at 25 rfl) pff_X3_31 rfl (e1 _ 2 _ _) (Nat.le_of_ble_eq_true rfl) rfl rfl ?_
  refine r_aload_n (pc := 48) (i := 0) (tX3_init.at 26 rfl) rfl rfl ?_
  refine r_bipush (pc := 49) (w := nI 6) (tX3_init.at 27 rfl) (by decide) ?_
  refine r_newaI (pc := 51) (6) (tX3_init.at 28 rfl) (rfl) (Nat.le_of_ble_eq_true rfl) ac_int (Nat.le_of_ble_eq_true rfl) (Nat.le_of_ble_eq_true rfl) (fun fr51 => ?_)
  refine r_putF (pc := 53) (tX3_init.at 29 rfl) pff_X3_34 rfl (e1 _ 3 _ _) (Nat.le_of_ble_eq_true rfl) rfl rfl ?_
  refine r_aload_n (pc := 56) (i := 0) (tX3_init.at 30 rfl) rfl rfl ?_
  refine r_bipush (pc := 57) (w := nI 6) (tX3_init.at 31 rfl) (by decide) ?_
  refine r_newaI (pc := 59) (6) (tX3_init.at 32 rfl) (rfl) (Nat.le_of_ble_eq_true rfl) ac_int (Nat.le_of_ble_eq_true rfl) (Nat.le_of_ble_eq_true rfl) (fun fr59 => ?_)
  refine r_putF (pc := 61) (tX3_init.at 33 rfl) pff_X3_37 rfl (e1 _ 4 _ _) (Nat.le_of_ble_eq_true rfl) rfl rfl ?_
  refine r_aload_n (pc := 64) (i := 0) (tX3_init.at 34 rfl) rfl rfl ?_
  refine r_getCost (pc := 65) (tX3_init.at 35 rfl) fn_X3_40 ?_
  refine r_put (pc := 68) (tX3_init.at 36 rfl) pf_X3_43 (e0 _ _) (Nat.le_of_ble_eq_true rfl) (rfl) (rfl) ?_
  refine r_vret (pc := 71) (tX3_init.at 37 rfl) rfl (Nat.le_of_ble_eq_true rfl) (Nat.le_of_ble_eq_true rfl) ?_
  refine ⟨rfl, (gH_ext ?_ ?_).symm, rfl⟩
  · refine ⟨?_, ?_, ?_, ?_, ?_, ?_⟩ <;> (simp [hp]; rfl)
  · intro q hq
    simp [hp, show q ≠ g by omega, show q ≠ g + 1 by omega, show q ≠ g + 1 + 1 by omega, show q ≠ g + 1 + 1 + 1 by omega, show q ≠ g + 1 + 1 + 1 + 1 by omega, show q ≠ g + 1 + 1 + 1 + 1 + 1 by omega]
def kA (q i : Nat) : Nat := q + 2 + 6 * i
def kF (q n : Nat) : Nat → Option Nat := fun j => if j < n then some (kA q j) else none
def hE (q p c : Nat) : va_E := ob 4 [.ref (q + 1), .int (nI p), .int (nI c)]
/-- the graphs kept -/
def hiG (v : Ev) (h : Hp) (q : Nat) : Nat → Hp
  | 0 => h
  | i + 1 => gH v (hiG v h q i) (kA q i) (G0 v)
theorem hiG_out (v : Ev) (h : Hp) (q : Nat) : ∀ (i a : Nat), (a < q + 2 ∨ q + 2 + 6 * i ≤ a) → hiG v h q i a = h a
  | 0, _, _ => rfl
  | i + 1, a, ha => by
    rw [hiG, gH_out _ _ _ _ (by unfold kA; omega)]
    exact hiG_out v h q i a (by omega)
theorem hiG_is (v : Ev) (h : Hp) (q : Nat) : ∀ (i j : Nat), j < i → isG v (hiG v h q i) (kA q j) (G0 v)
  | i + 1, j, hj => by
    rw [hiG]
    by_cases h1 : j = i
    · subst h1
      exact gH_is _ _ _ _
    · exact (hiG_is v h q i j (by omega)).frame (fun a h2 h3 => gH_out _ _ _ _ (by unfold kA at *; omega))
def isHi (v : Ev) (h : Hp) (q p c : Nat) (Ks : Nat → GT) : Prop := h q = some (hE q p c) ∧ h (q + 1) = some (aG v 8 (kF q 8)) ∧ ∀ i, i < 8 → isG v h (kA q i) (Ks i)
/-- the heap behind the constructor -/
def hiH (v : Ev) (h : Hp) (q : Nat) : Hp := hp (hiG v (hp h q (hE q 0 0)) q 8) (q + 1) (aG v 8 (kF q 8))
theorem hiH_is (v : Ev) (h : Hp) (q : Nat) : isHi v (hiH v h q) q 0 0 (fun _ => G0 v) := by
  refine ⟨?_, hp_eq _ _ _, fun i hi => ?_⟩
  · unfold hiH
    rw [hp_ne _ _ (by omega), hiG_out _ _ _ _ _ (by omega), hp_eq]
  · exact (hiG_is v _ q 8 i hi).put (by unfold kA; omega)
theorem hiH_out {v : Ev} {h : Hp} {q a : Nat} (ha : a < q ∨ q + 50 ≤ a) : hiH v h q a = h a := by
  unfold hiH
  rw [hp_ne _ _ (by omega), hiG_out _ _ _ _ _ (by omega), hp_ne _ _ (by omega)]
theorem kF_s (q i : Nat) : va_up (kF q i) i (some (kA q i)) = kF q (i + 1) := by
  funext j
  unfold va_up kF
  by_cases h1 : j = i
  · rw [if_pos h1, if_pos (by omega), h1]
  · rw [if_neg h1]
    by_cases h2 : j < i
    · rw [if_pos h2, if_pos (by omega)]
    · rw [if_neg h2, if_neg (by omega)]
theorem c_hInit {v : Ev} {h : Hp} {q : Nat} (hq : h q = some (ob 4 [.null, .int 0, .int 0])) : Cal v mX4_init 2 49 712 [.ref q] h (q + 1) (pT (hiH v h q) (q + 50)) noX := by
  refine Cal.ofJ (by decide +kernel) rfl (Nat.le_of_ble_eq_true rfl) fun hz0 => ?_
  refine r_ls [some (.ref q), none] rfl ?_
  refine r_aload_n (pc := 0) (i := 0) (tX4_init.at 0 rfl) rfl rfl ?_
  refine r_objInit (pc := 1) (tX4_init.at 1 rfl) ml_X4_3 oi_inst oi_code (Nat.le_of_ble_eq_true rfl) (Nat.le_of_ble_eq_true rfl) ?_
  refine r_aload_n (pc := 4) (i := 0) (tX4_init.at 2 rfl) rfl rfl ?_
  refine r_bipush (pc := 5) (w := nI 8) (tX4_init.at 3 rfl) (by decide) ?_
  refine r_anewG (pc := 7) 8 (tX4_init.at 4 rfl) rfl (by omega) kl_X4_9 (Nat.le_of_ble_eq_true rfl) (Nat.le_of_ble_eq_true rfl) (fun _ => ?_)
  refine r_putF (pc := 10) (tX4_init.at 5 rfl) pff_X4_11 rfl ((hp_ne _ _ (by omega)).trans hq) (Nat.le_of_ble_eq_true rfl) rfl rfl ?_
  refine r_aload_n (pc := 13) (i := 0) (tX4_init.at 6 rfl) rfl rfl ?_
  refine r_iconst (pc := 14) (w := nI 0) (tX4_init.at 7 rfl) (by decide) ?_
  refine r_put (pc := 15) (tX4_init.at 8 rfl) pf_X4_17 (hp_eq _ _ _) (Nat.le_of_ble_eq_true rfl) (rfl) (rfl) ?_
  refine r_aload_n (pc := 18) (i := 0) (tX4_init.at 9 rfl) rfl rfl ?_
  refine r_iconst (pc := 19) (w := nI 0) (tX4_init.at 10 rfl) (by decide) ?_
  refine r_put (pc := 20) (tX4_init.at 11 rfl) pf_X4_21 (hp_eq _ _ _) (Nat.le_of_ble_eq_true rfl) (rfl) (rfl) ?_
  refine r_iconst (pc := 23) (w := nI 0) (tX4_init.at 12 rfl) (by decide) ?_
  refine r_istore_n (pc := 24) (i := 1) (tX4_init.at 13 rfl) rfl (by decide) ?_
  refine r_eq (h2 := hp (hiG v (hp h q (hE q 0 0)) q 0) (q + 1) (aG v 8 (kF q 0))) (by
    funext a
    simp only [hiG, hp]
    by_cases h1 : a = q
    · simp [h1]
      rfl
    · by_cases h2 : a = q + 1
      · simp [h2]
        rfl
      · simp [h1, h2]) rfl ?_
  refine r_widen (c2 := 1 + 6 * 0) (s2 := 8 + 88 * 0) (by omega) (by omega) ?_
  have key : ∀ m i, i + m = 8 → J v mX4_init (rmOf 2 49 712) (KM v (pT (hiH v h q) (q + 50)) noX 49 712) (q + 1) (1 + 6 * i) (8 + 88 * i) (hp (hiG v (hp h q (hE q 0 0)) q i) (q + 1) (aG v 8 (kF q i))) (q + 2 + 6 * i) 25 [some (.ref q), some (.int (nI i))] [] := by
    intro m
    induction m with
    | zero =>
      intro i hi
      have hi : i = 8 := by omega
      subst hi
      refine r_iload_n (pc := 25) (i := 1) (tX4_init.at 14 rfl) rfl rfl ?_
      refine r_bipush (pc := 26) (w := nI 8) (tX4_init.at 15 rfl) (by decide) ?_
      refine r_icmp_geN (pc := 28) 50 (tX4_init.at 16 rfl) (by decide) (by omega) (by omega) (fun _ => ?_) (fun c => by omega)
      refine r_vret (pc := 50) (tX4_init.at 26 rfl) rfl (Nat.le_of_ble_eq_true rfl) (Nat.le_of_ble_eq_true rfl) ?_
      exact ⟨rfl, rfl, rfl⟩
    | succ m ih =>
      intro i hi
      have hqa : hp (hiG v (hp h q (hE q 0 0)) q i) (q + 1) (aG v 8 (kF q i)) q = some (hE q 0 0) := by
        rw [hp_ne _ _ (by omega), hiG_out _ _ _ _ _ (by omega), hp_eq]
      refine r_iload_n (pc := 25) (i := 1) (tX4_init.at 14 rfl) rfl rfl ?_
      refine r_bipush (pc := 26) (w := nI 8) (tX4_init.at 15 rfl) (by decide) ?_
      refine r_icmp_geN (pc := 28) 50 (tX4_init.at 16 rfl) (by decide) (by omega) (by omega) (fun c => by omega) (fun _ => ?_)
      refine r_aload_n (pc := 31) (i := 0) (tX4_init.at 17 rfl) rfl rfl ?_
      refine r_get (pc := 32) (tX4_init.at 18 rfl) gf_X4_11 (hqa) rfl ?_
      refine r_iload_n (pc := 35) (i := 1) (tX4_init.at 19 rfl) rfl rfl ?_
      refine r_new (pc := 36) (tX4_init.at 20 rfl) nw_X4_9 (by show 1 + 6 * i + 1 ≤ 49; omega) (by show 8 + 88 * i + 10 ≤ 712; omega) (fun _ => ?_)
      refine r_dup (pc := 39) (tX4_init.at 21 rfl) rfl ?_
      refine r_callI (M' := mX3_init) (pc := 40) (tX4_init.at 22 rfl) (Or.inr ⟨_, mn_X4_24⟩) rfl rfl mw_X3_init ⟨by decide, by decide⟩ (c_gInit (g := q + 2 + 6 * i) (hp_eq _ _ _)) rfl rfl (Nat.le_of_ble_eq_true rfl) (by show 1 + 6 * i + 1 + 5 ≤ 49; omega) (by show 8 + 88 * i + 10 + 78 ≤ 712; omega) ?_
      rintro _ _ _ ⟨rfl, rfl, rfl⟩
      have hA : gH v (hp (hp (hiG v (hp h q (hE q 0 0)) q i) (q + 1) (aG v 8 (kF q i))) (q + 2 + 6 * i) (ob 3 gNew)) (q + 2 + 6 * i) (G0 v) (q + 1) = some (aG v 8 (kF q i)) := by
        rw [gH_out _ _ _ _ (by omega), hp_ne _ _ (by omega), hp_eq]
      refine r_aast (pc := 43) (tX4_init.at 23 rfl) hA (gH_is v _ (q + 2 + 6 * i) (G0 v)).1 i rfl (by omega) (by omega) ?_
      rw [show some (q + 2 + 6 * i) = some (kA q i) from rfl, kF_s]
      first | refine r_iincN (pc := 44) (tX4_init.at 24 rfl) rfl (by decide) ?_ | refine r_iinc (pc := 44) (tX4_init.at 24 rfl) rfl rfl (by decide) ?_
      refine r_goto (pc := 47) 25 (tX4_init.at 25 rfl) (by decide) ?_
      refine r_widen (c2 := 1 + 6 * (i + 1)) (s2 := 8 + 88 * (i + 1)) (by omega) (by omega) ?_
      refine r_eq ?_ rfl (ih (i + 1) (by omega))
      funext a
      rw [hiG]
      by_cases h1 : a = q + 1
      · subst h1
        rw [hp_eq, hp_eq]
      · rw [hp_ne _ _ h1, hp_ne _ _ h1]
        by_cases h2 : q + 2 + 6 * i ≤ a ∧ a < q + 2 + 6 * i + 6
        · unfold gH
          rw [if_pos h2, if_pos (show kA q i ≤ a ∧ a < kA q i + 6 from h2)]
          rfl
        · rw [gH_out _ _ _ _ (by omega), gH_out _ _ _ _ (by unfold kA; omega), hp_ne _ _ (by omega), hp_ne _ _ h1]
  exact key 8 0 (by omega)
theorem irem_nI {a d : Nat} (ha : a < 2147483648) (h0 : 0 < d) (hd : d < 2147483648) : nI a - nI a / nI d * nI d = nI (a % d) := pk_rem ha h0 hd
theorem kF_8 {q p : Nat} (hp8 : p < 8) : va_rf (kF q 8 p) = .ref (kA q p) := by
  unfold kF
  rw [if_pos hp8]
  rfl
theorem c_keep {v : Ev} {h : Hp} {top q p c g : Nat} {Ks : Nat → GT} {X : GT} (hh : isHi v h q p c Ks) (hp8 : p < 8) (hc8 : c ≤ 8) (hx : isG v h g X) (hd : g + 6 ≤ q ∨ q + 50 ≤ g) : Cal v mX4_keep 3 0 0 [.ref q, .ref g] h top (pV (hp (gH v h (kA q p) ((Ks p).cop X)) q (hE q ((p + 1) % 8) (min (c + 1) 8))) top) noX := by
  obtain ⟨h0, h1, h2⟩ := hh
  have hk := h2 p hp8
  have hself := gH_self hk
  refine Cal.ofJ (by decide +kernel) rfl (Nat.le_of_ble_eq_true rfl) fun hz0 => ?_
  refine r_ls [some (.ref q), some (.ref g)] rfl ?_
  refine r_aload_n (pc := 0) (i := 0) (tX4_keep.at 0 rfl) rfl rfl ?_
  refine r_get (pc := 1) (tX4_keep.at 1 rfl) gf_X4_11 (h0) rfl ?_
  refine r_aload_n (pc := 4) (i := 0) (tX4_keep.at 2 rfl) rfl rfl ?_
  refine r_get (pc := 5) (tX4_keep.at 3 rfl) gf_X4_17 (h0) rfl ?_
  refine r_aald (pc := 8) (tX4_keep.at 4 rfl) h1 p rfl hp8 (by omega) ?_
  rw [kF_8 hp8]
  have cc := c_copy (v := v) (h := h) (top := top) (g := kA q p) (o := g) (G := Ks p) (X := X) hx (by unfold kA; omega)
  rw [hself] at cc
  refine r_aload_n (pc := 9) (i := 1) (tX4_keep.at 5 rfl) rfl rfl ?_
  refine r_callV (M' := mX3_copyFrom) (pc := 10) (tX4_keep.at 6 rfl) ml_X4_25 rfl mw_X3_copyFrom ⟨by decide, by decide⟩ (hk.1) rfl rfl (cc) rfl rfl (Nat.le_of_ble_eq_true rfl) (Nat.le_of_ble_eq_true rfl) (Nat.le_of_ble_eq_true rfl) ?_
  rintro _ _ _ ⟨rfl, rfl, rfl⟩
  have e0 : gH v h (kA q p) ((Ks p).cop X) q = some (hE q p c) := by rw [gH_out _ _ _ _ (by unfold kA; omega)]; exact h0
  refine r_aload_n (pc := 13) (i := 0) (tX4_keep.at 7 rfl) rfl rfl ?_
  refine r_aload_n (pc := 14) (i := 0) (tX4_keep.at 8 rfl) rfl rfl ?_
  refine r_get (pc := 15) (tX4_keep.at 9 rfl) gf_X4_17 (e0) rfl ?_
  refine r_iconst (pc := 18) (w := nI 1) (tX4_keep.at 10 rfl) (by decide) ?_
  first | refine r_iaddN (pc := 19) (tX4_keep.at 11 rfl) ?_ | refine r_iadd (pc := 19) (tX4_keep.at 11 rfl) ?_
  refine r_bipush (pc := 20) (w := nI 8) (tX4_keep.at 12 rfl) (by decide) ?_
  refine r_irem (pc := 22) (tX4_keep.at 13 rfl) (by decide) ?_
  rw [irem_nI (by omega) (by omega) (by omega)]
  refine r_put (pc := 23) (tX4_keep.at 14 rfl) pf_X4_17 (e0) (Nat.le_of_ble_eq_true rfl) (rfl) (rfl) ?_
  refine r_aload_n (pc := 26) (i := 0) (tX4_keep.at 15 rfl) rfl rfl ?_
  refine r_aload_n (pc := 27) (i := 0) (tX4_keep.at 16 rfl) rfl rfl ?_
  refine r_get (pc := 28) (tX4_keep.at 17 rfl) gf_X4_21 (hp_eq _ _ _) rfl ?_
  refine r_iconst (pc := 31) (w := nI 1) (tX4_keep.at 18 rfl) (by decide) ?_
  first | refine r_iaddN (pc := 32) (tX4_keep.at 19 rfl) ?_ | refine r_iadd (pc := 32) (tX4_keep.at 19 rfl) ?_
  refine r_bipush (pc := 33) (w := nI 8) (tX4_keep.at 20 rfl) (by decide) ?_
  first | refine r_mminN (pc := 35) (tX4_keep.at 21 rfl) ml_X4_29 mw_min_s mw_math mw_min_c (Nat.le_of_ble_eq_true rfl) (Nat.le_of_ble_eq_true rfl) (Nat.le_of_ble_eq_true rfl) (Nat.le_of_ble_eq_true rfl) (by omega) (by omega) ?_ | refine r_mminZ (pc := 35) (tX4_keep.at 21 rfl) ml_X4_29 mw_min_s mw_math mw_min_c (Nat.le_of_ble_eq_true rfl) (Nat.le_of_ble_eq_true rfl) (Nat.le_of_ble_eq_true rfl) (Nat.le_of_ble_eq_true rfl) ⟨by omega, by omega⟩ ⟨by omega, by omega⟩ ?_ | refine r_mmin (pc := 35) (tX4_keep.at 21 rfl) ml_X4_29 mw_min_s mw_math mw_min_c (Nat.le_of_ble_eq_true rfl) (Nat.le_of_ble_eq_true rfl) (Nat.le_of_ble_eq_true rfl) (Nat.le_of_ble_eq_true rfl) ?_
  refine r_put (pc := 38) (tX4_keep.at 22 rfl) pf_X4_21 (hp_eq _ _ _) (Nat.le_of_ble_eq_true rfl) (rfl) (rfl) ?_
  rw [hp_hp]
  refine r_vret (pc := 41) (tX4_keep.at 23 rfl) rfl (Nat.le_of_ble_eq_true rfl) (Nat.le_of_ble_eq_true rfl) ?_
  exact ⟨rfl, rfl, rfl⟩
