/-! ===== the law: its script, its own object, its small methods ===== -/
theorem fits_rm {d d' mc ms : Nat} {M' : Md} (h : d' + 1 ≤ d) (hm : M'.2.2.1 ≤ 41) : Fits (rmOf d mc ms) M' d' := by
  refine ⟨h, ?_⟩
  show 8 + (M'.2.2.1 + 11) + 60 * d' ≤ 60 * d
  omega
/-- the script -/
def scN (v : Ev) : Nat := oA v 999
def scF (v : Ev) (k : Nat) : Int32 := if k < scN v then nI (oA v (1000 + k)) else 0
section
variable {v : Ev} {M : Md} {R : Room} {K : List Frame → Array Value → State → State → Prop} {t0 cells slots : Nat} {h : Hp} {top pc : Nat} {ls : List (Option Value)} {st : List Value}
theorem r_scLen (d : decode M.2.1 pc = .ok (.arraylength, 1)) (kk : J v M R K t0 cells slots h top (pc + 1) ls (.int (nI (scN v)) :: st)) : J v M R K t0 cells slots h top pc ls (.ref (oA v 98) :: st) := by
  intro p l e s m args below meth c F H locs A hz hH hS hl
  exact va_tlen F.1 F.2.1 F.old.2.2.2.2.2.2.2.2.2 hS rfl d (kk p l e s m args below meth c F H locs A hz hH hS hl)
theorem r_scLd {k : Nat} (d : decode M.2.1 pc = .ok (.iaload, 1)) (hk : k < scN v) (hN : scN v ≤ 1000) (kk : J v M R K t0 cells slots h top (pc + 1) ls (.int (nI (oA v (1000 + k))) :: st)) : J v M R K t0 cells slots h top pc ls (.int (nI k) :: .ref (oA v 98) :: st) := by
  intro p l e s m args below meth c F H locs A hz hH hS hl
  obtain ⟨h1, h2⟩ := in_nI (x := nI k) rfl hk (by omega)
  exact va_ti F.1 F.2.1 F.old.2.2.2.2.2.2.2.2.2 hS h1 (by rw [h2]) d (kk p l e s m args below meth c F H locs A hz hH hS hl)
end
theorem c_lCell {v : Ev} {h : Hp} {top k : Nat} (hN : scN v ≤ 260) (hk : k ≤ 1000) : Cal v mL_cell 1 0 0 [.ref (oA v 98), .int (nI k)] h top (pR (.int (scF v k)) h top) noX := by
  refine Cal.ofJ (by decide +kernel) rfl (Nat.le_of_ble_eq_true rfl) fun hz0 => ?_
  refine r_ls [some (.ref (oA v 98)), some (.int (nI k))] rfl ?_
  refine r_iload_n (pc := 0) (i := 1) (tL_cell.at 0 rfl) rfl rfl ?_
  refine r_aload_n (pc := 1) (i := 0) (tL_cell.at 1 rfl) rfl rfl ?_
  refine r_scLen (pc := 2) (tL_cell.at 2 rfl) ?_
  refine r_icmp_geN (pc := 3) 12 (tL_cell.at 3 rfl) (by decide) (by omega) (by omega) (fun c => ?_) (fun c => ?_)
  · refine r_iconst (pc := 12) (w := nI 0) (tL_cell.at 8 rfl) (by decide) ?_
    refine r_iret (pc := 13) (tL_cell.at 9 rfl) rfl (Nat.le_of_ble_eq_true rfl) (Nat.le_of_ble_eq_true rfl) ?_
    unfold scF
    rw [if_neg (by omega)]
    exact ⟨rfl, rfl, rfl⟩
  · refine r_aload_n (pc := 6) (i := 0) (tL_cell.at 4 rfl) rfl rfl ?_
    refine r_iload_n (pc := 7) (i := 1) (tL_cell.at 5 rfl) rfl rfl ?_
    refine r_scLd (pc := 8) (tL_cell.at 6 rfl) c (by omega) ?_
    refine r_goto (pc := 9) 13 (tL_cell.at 7 rfl) (by decide) ?_
    refine r_iret (pc := 13) (tL_cell.at 9 rfl) rfl (Nat.le_of_ble_eq_true rfl) (Nat.le_of_ble_eq_true rfl) ?_
    unfold scF
    rw [if_pos c]
    exact ⟨rfl, rfl, rfl⟩
def low31 (x : Int32) : Nat := x.toBitVec.toNat % 2147483648
theorem low31_lt (x : Int32) : low31 x < 2147483648 := Nat.mod_lt _ (by omega)
theorem low31_and (x : Int32) : x &&& nI 2147483647 = nI (low31 x) := by
  apply Int32.toBitVec_inj.mp
  apply BitVec.eq_of_toNat_eq
  rw [Int32.toBitVec_and, BitVec.toNat_and]
  show x.toBitVec.toNat &&& 2147483647 = (BitVec.ofNat 32 (low31 x)).toNat
  rw [BitVec.toNat_ofNat, show (2147483647 : Nat) = 2 ^ 31 - 1 from rfl, Nat.and_two_pow_sub_one_eq_mod]
  have := low31_lt x
  unfold low31 at *
  omega
def bnd (x : Int32) (n : Nat) : Nat := low31 x % n
theorem c_lBound {v : Ev} {h : Hp} {top n : Nat} {x : Int32} (h0 : 0 < n) (hn : n ≤ 1000) : Cal v mL_bound 1 0 0 [.int x, .int (nI n)] h top (pR (.int (nI (bnd x n))) h top) noX := by
  refine Cal.ofJ (by decide +kernel) rfl (Nat.le_of_ble_eq_true rfl) fun hz0 => ?_
  refine r_ls [some (.int x), some (.int (nI n))] rfl ?_
  refine r_iload_n (pc := 0) (i := 0) (tL_bound.at 0 rfl) rfl rfl ?_
  refine r_ldcI (pc := 1) (tL_bound.at 1 rfl) ic_L_27 ?_
  refine r_iand (pc := 3) (tL_bound.at 2 rfl) ?_
  rw [show (2147483647 : Int32) = nI 2147483647 from rfl, low31_and]
  refine r_iload_n (pc := 4) (i := 1) (tL_bound.at 3 rfl) rfl rfl ?_
  refine r_irem (pc := 5) (tL_bound.at 4 rfl) (nI_ne0 h0 (by omega)) ?_
  rw [pk_rem (Nat.lt_of_lt_of_le (low31_lt x) (by omega)) h0 (by omega)]
  refine r_iret (pc := 6) (tL_bound.at 5 rfl) rfl (Nat.le_of_ble_eq_true rfl) (Nat.le_of_ble_eq_true rfl) ?_
  exact ⟨rfl, rfl, rfl⟩
/-- the law's own object: n, edges, absorbing; weights, costs, degrees, ends, theirs -/
abbrev LT : Type := (Nat × Nat × Nat) × (Nat → Nat) × (Nat → Nat) × (Nat → Nat) × (Nat → Nat) × (Nat → Nat)
def LT.n (S : LT) : Nat := S.1.1
def LT.e (S : LT) : Nat := S.1.2.1
def LT.a (S : LT) : Nat := S.1.2.2
def LT.W (S : LT) : Nat → Nat := S.2.1
def LT.C (S : LT) : Nat → Nat := S.2.2.1
def LT.D (S : LT) : Nat → Nat := S.2.2.2.1
def LT.E (S : LT) : Nat → Nat := S.2.2.2.2.1
def LT.T (S : LT) : Nat → Nat := S.2.2.2.2.2
def rwQ (q : Nat) : Nat → Option Nat := fun i => if i < 6 then some (q + 1 + i) else none
theorem rwQ_at {q i : Nat} (hi : i < 6) : va_rf (rwQ q i) = .ref (q + 1 + i) := by
  unfold rwQ
  rw [if_pos hi]
  rfl
def ltE (y : Nat) (S : LT) : va_E := ob 13 [.int (nI S.n), .int (nI S.e), .int (nI S.a), .ref (y + 1), .ref (y + 8), .ref (y + 15), .ref (y + 16), .ref (y + 17)]
def rowF (W : Nat → Nat) (i : Nat) : Nat → Int32 := fun j => if j < 6 then nI (W (i * 6 + j)) else 0
theorem rowF_at {W : Nat → Nat} {i j : Nat} (hj : j < 6) : rowF W i j = nI (W (i * 6 + j)) := if_pos hj
theorem rowF_0 {i : Nat} : rowF (fun _ => 0) i = fun _ => 0 := by
  funext j
  unfold rowF
  split <;> rfl
def isLw (v : Ev) (h : Hp) (y : Nat) (S : LT) : Prop := h y = some (ltE y S) ∧ h (y + 1) = some (aQ v 6 (rwQ (y + 1))) ∧ (∀ i, i < 6 → h (y + 1 + 1 + i) = some (aI v 6 (rowF S.W i))) ∧ h (y + 8) = some (aQ v 6 (rwQ (y + 8))) ∧ (∀ i, i < 6 → h (y + 8 + 1 + i) = some (aI v 6 (rowF S.C i))) ∧ h (y + 15) = some (aI v 6 (iF S.D)) ∧ h (y + 16) = some (aI v 30 (iF S.E)) ∧ h (y + 17) = some (aI v 15 (iF S.T))
theorem isLw.agr {v : Ev} {h h' : Hp} {y : Nat} {S : LT} (L : isLw v h y S) (f : ∀ a, y ≤ a → a < y + 18 → h' a = h a) : isLw v h' y S := by
  obtain ⟨h1, h2, h3, h4, h5, h6, h7, h8⟩ := L
  refine ⟨(f _ (by omega) (by omega)).trans h1, (f _ (by omega) (by omega)).trans h2, fun i hi => (f _ (by omega) (by omega)).trans (h3 i hi), (f _ (by omega) (by omega)).trans h4, fun i hi => (f _ (by omega) (by omega)).trans (h5 i hi), (f _ (by omega) (by omega)).trans h6, (f _ (by omega) (by omega)).trans h7, (f _ (by omega) (by omega)).trans h8⟩
theorem isLw.up {v : Ev} {h : Hp} {y a : Nat} {S : LT} {e : va_E} (L : isLw v h y S) (ha : y + 18 ≤ a) : isLw v (hp h a e) y S := L.agr fun b h1 h2 => hp_ne _ _ (by omega)
theorem mnaH_out {v : Ev} {h : Hp} {top a : Nat} (ha : a < top ∨ top + 7 ≤ a) : mnaH v h top a = h a := by
  unfold mnaH
  rw [if_neg (by omega), if_neg (by omega)]
theorem mnaH_top {v : Ev} {h : Hp} {top : Nat} : mnaH v h top top = some (aQ v 6 (rwQ top)) := by
  unfold mnaH
  rw [if_neg (by omega), if_pos rfl]
  rfl
theorem mnaH_row {v : Ev} {h : Hp} {top i : Nat} (hi : i < 6) : mnaH v h top (top + 1 + i) = some (aI v 6 (fun _ => 0)) := by
  unfold mnaH
  rw [if_pos (by omega)]
def L00 : LT := ((0, 0, 0), fun _ => 0, fun _ => 0, fun _ => 0, fun _ => 0, fun _ => 0)
theorem c_lInit {v : Ev} {h : Hp} {y : Nat} (hy : h y = some (ob 13 [.int 0, .int 0, .int 0, .null, .null, .null, .null, .null])) : Cal v mL_init 2 17 135 [.ref y] h (y + 1) (fun r h' top' => r = none ∧ top' = y + 18 ∧ isLw v h' y L00 ∧ ∀ a, a < y → h' a = h a) noX := by
  refine Cal.ofJ (by decide +kernel) rfl (Nat.le_of_ble_eq_true rfl) fun hz0 => ?_
  refine r_ls [some (.ref y)] rfl ?_
  refine r_aload_n (pc := 0) (i := 0) (tL_init.at 0 rfl) rfl rfl ?_
  refine r_objInit (pc := 1) (tL_init.at 1 rfl) ml_L_1 oi_inst oi_code (Nat.le_of_ble_eq_true rfl) (Nat.le_of_ble_eq_true rfl) ?_
  refine r_aload_n (pc := 4) (i := 0) (tL_init.at 2 rfl) rfl rfl ?_
  refine r_bipush (pc := 5) (w := nI 6) (tL_init.at 3 rfl) (by decide) ?_
  refine r_bipush (pc := 7) (w := nI 6) (tL_init.at 4 rfl) (by decide) ?_
  refine r_mna (pc := 9) (tL_init.at 5 rfl) kl_L_7 (Nat.le_of_ble_eq_true rfl) (Nat.le_of_ble_eq_true rfl) ?_
  refine r_putF (pc := 13) (tL_init.at 6 rfl) pff_L_9 rfl ((mnaH_out (by omega)).trans hy) (Nat.le_of_ble_eq_true rfl) rfl rfl ?_
  refine r_aload_n (pc := 16) (i := 0) (tL_init.at 7 rfl) rfl rfl ?_
  refine r_bipush (pc := 17) (w := nI 6) (tL_init.at 8 rfl) (by decide) ?_
  refine r_bipush (pc := 19) (w := nI 6) (tL_init.at 9 rfl) (by decide) ?_
  refine r_mna (pc := 21) (tL_init.at 10 rfl) kl_L_7 (Nat.le_of_ble_eq_true rfl) (Nat.le_of_ble_eq_true rfl) ?_
  refine r_putF (pc := 25) (tL_init.at 11 rfl) pff_L_14 rfl ((mnaH_out (by omega)).trans (hp_eq _ _ _)) (Nat.le_of_ble_eq_true rfl) rfl rfl ?_
  refine r_aload_n (pc := 28) (i := 0) (tL_init.at 12 rfl) rfl rfl ?_
  refine r_bipush (pc := 29) (w := nI 6) (tL_init.at 13 rfl) (by decide) ?_
  refine r_newaI (pc := 31) (6) (tL_init.at 14 rfl) (rfl) (Nat.le_of_ble_eq_true rfl) ac_int (Nat.le_of_ble_eq_true rfl) (Nat.le_of_ble_eq_true rfl) (fun fr31 => ?_)
  refine r_putF (pc := 33) (tL_init.at 15 rfl) pff_L_17 rfl ((hp_ne _ _ (by omega)).trans (hp_eq _ _ _)) (Nat.le_of_ble_eq_true rfl) rfl rfl ?_
  refine r_aload_n (pc := 36) (i := 0) (tL_init.at 16 rfl) rfl rfl ?_
  refine r_bipush (pc := 37) (w := nI 30) (tL_init.at 17 rfl) (by decide) ?_
  refine r_newaI (pc := 39) (30) (tL_init.at 18 rfl) (rfl) (Nat.le_of_ble_eq_true rfl) ac_int (Nat.le_of_ble_eq_true rfl) (Nat.le_of_ble_eq_true rfl) (fun fr39 => ?_)
  refine r_putF (pc := 41) (tL_init.at 19 rfl) pff_L_21 rfl ((hp_ne _ _ (by omega)).trans (hp_eq _ _ _)) (Nat.le_of_ble_eq_true rfl) rfl rfl ?_
  refine r_aload_n (pc := 44) (i := 0) (tL_init.at 20 rfl) rfl rfl ?_
  refine r_bipush (pc := 45) (w := nI 15) (tL_init.at 21 rfl) (by decide) ?_
  refine r_newaI (pc := 47) (15) (tL_init.at 22 rfl) (rfl) (Nat.le_of_ble_eq_true rfl) ac_int (Nat.le_of_ble_eq_true rfl) (Nat.le_of_ble_eq_true rfl) (fun fr47 => ?_)
  refine r_putF (pc := 49) (tL_init.at 23 rfl) pff_L_24 rfl ((hp_ne _ _ (by omega)).trans (hp_eq _ _ _)) (Nat.le_of_ble_eq_true rfl) rfl rfl ?_
  refine r_vret (pc := 52) (tL_init.at 24 rfl) rfl (Nat.le_of_ble_eq_true rfl) (Nat.le_of_ble_eq_true rfl) ?_
  refine ⟨rfl, rfl, ⟨?_, ?_, fun i hi => ?_, ?_, fun i hi => ?_, ?_, ?_, ?_⟩, fun a ha => ?_⟩
  · exact hp_eq _ _ _
  · rw [hp_ne _ _ (by omega), hp_ne _ _ (by omega), hp_ne _ _ (by omega), hp_ne _ _ (by omega), hp_ne _ _ (by omega), hp_ne _ _ (by omega), hp_ne _ _ (by omega), mnaH_out (by omega), hp_ne _ _ (by omega)]
    exact mnaH_top
  · rw [hp_ne _ _ (by omega), hp_ne _ _ (by omega), hp_ne _ _ (by omega), hp_ne _ _ (by omega), hp_ne _ _ (by omega), hp_ne _ _ (by omega), hp_ne _ _ (by omega), mnaH_out (by omega), hp_ne _ _ (by omega)]
    refine (mnaH_row hi).trans ?_
    show some (aI v 6 (fun _ => 0)) = some (aI v 6 (rowF (fun _ => 0) i))
    rw [rowF_0]
  · rw [hp_ne _ _ (by omega), hp_ne _ _ (by omega), hp_ne _ _ (by omega), hp_ne _ _ (by omega), hp_ne _ _ (by omega), hp_ne _ _ (by omega), hp_ne _ _ (by omega)]
    exact mnaH_top
  · rw [hp_ne _ _ (by omega), hp_ne _ _ (by omega), hp_ne _ _ (by omega), hp_ne _ _ (by omega), hp_ne _ _ (by omega), hp_ne _ _ (by omega), hp_ne _ _ (by omega)]
    refine (mnaH_row hi).trans ?_
    show some (aI v 6 (fun _ => 0)) = some (aI v 6 (rowF (fun _ => 0) i))
    rw [rowF_0]
  · rw [hp_ne _ _ (by omega), hp_ne _ _ (by omega), hp_ne _ _ (by omega), hp_ne _ _ (by omega), hp_ne _ _ (by omega)]
    exact hp_eq _ _ _
  · rw [hp_ne _ _ (by omega), hp_ne _ _ (by omega), hp_ne _ _ (by omega)]
    exact hp_eq _ _ _
  · rw [hp_ne _ _ (by omega)]
    exact hp_eq _ _ _
  · rw [hp_ne _ _ (by omega), hp_ne _ _ (by omega), hp_ne _ _ (by omega), hp_ne _ _ (by omega), hp_ne _ _ (by omega), hp_ne _ _ (by omega), hp_ne _ _ (by omega), mnaH_out (by omega), hp_ne _ _ (by omega), mnaH_out (by omega)]
theorem c_div {v : Ev} {h : Hp} {top : Nat} : ∀ k a b : Nat, b < 2 ^ k → a ≤ 9223372036854775807 → b ≤ 9223372036854775807 → Cal v mL_divisor (2 * k + 1) 0 0 [.long (lI (a : Int)), .long (lI (b : Int))] h top (pR (.long (lI ((Nat.gcd a b : Nat) : Int))) h top) noX := by
  have one : ∀ d a : Nat, a ≤ 9223372036854775807 → Cal v mL_divisor (d + 1) 0 0 [.long (lI (a : Int)), .long (lI ((0 : Nat) : Int))] h top (pR (.long (lI ((Nat.gcd a 0 : Nat) : Int))) h top) noX := by
    intro d a ha
    refine Cal.ofJ (by decide +kernel) rfl (Nat.le_of_ble_eq_true rfl) fun hz0 => ?_
    refine r_ls [some (.long (lI (a : Int))), none, some (.long (lI ((0 : Nat) : Int))), none] rfl ?_
    refine r_lload_n (pc := 0) (i := 2) (tL_divisor.at 0 rfl) rfl rfl ?_
    refine r_lconst (pc := 1) (w := lI 0) (tL_divisor.at 1 rfl) (by decide) ?_
    refine r_lc_ne (pc := 2) 10 (tL_divisor.at 2 rfl) (tL_divisor.at 3 rfl) (by decide) (⟨by omega, by omega⟩) (⟨by omega, by omega⟩) (fun c => by omega) (fun _ => ?_)
    refine r_lload_n (pc := 6) (i := 0) (tL_divisor.at 4 rfl) rfl rfl ?_
    refine r_goto (pc := 7) 17 (tL_divisor.at 5 rfl) (by decide) ?_
    refine r_lret (pc := 17) (tL_divisor.at 11 rfl) rfl (Nat.le_of_ble_eq_true rfl) (Nat.le_of_ble_eq_true rfl) ?_
    rw [Nat.gcd_zero_right]
    exact ⟨rfl, rfl, rfl⟩
  have step : ∀ d a b : Nat, 0 < b → a ≤ 9223372036854775807 → b ≤ 9223372036854775807 → Cal v mL_divisor d 0 0 [.long (lI (b : Int)), .long (lI ((a % b : Nat) : Int))] h top (pR (.long (lI ((Nat.gcd b (a % b) : Nat) : Int))) h top) noX → Cal v mL_divisor (d + 1) 0 0 [.long (lI (a : Int)), .long (lI (b : Int))] h top (pR (.long (lI ((Nat.gcd a b : Nat) : Int))) h top) noX := by
    intro d a b hb0 ha hb hC
    refine Cal.ofJ (by decide +kernel) rfl (Nat.le_of_ble_eq_true rfl) fun hz0 => ?_
    refine r_ls [some (.long (lI (a : Int))), none, some (.long (lI (b : Int))), none] rfl ?_
    refine r_lload_n (pc := 0) (i := 2) (tL_divisor.at 0 rfl) rfl rfl ?_
    refine r_lconst (pc := 1) (w := lI 0) (tL_divisor.at 1 rfl) (by decide) ?_
    refine r_lc_ne (pc := 2) 10 (tL_divisor.at 2 rfl) (tL_divisor.at 3 rfl) (by decide) (⟨by omega, by omega⟩) (⟨by omega, by omega⟩) (fun _ => ?_) (fun c => by omega)
    refine r_lload_n (pc := 10) (i := 2) (tL_divisor.at 6 rfl) rfl rfl ?_
    refine r_lload_n (pc := 11) (i := 0) (tL_divisor.at 7 rfl) rfl rfl ?_
    refine r_lload_n (pc := 12) (i := 2) (tL_divisor.at 8 rfl) rfl rfl ?_
    refine r_lremL (pc := 13) (tL_divisor.at 9 rfl) (⟨by omega, by omega⟩) (⟨by omega, by omega⟩) (by omega) ?_
    rw [show (a : Int).tmod (b : Int) = ((a % b : Nat) : Int) from by rw [Int.tmod_eq_emod_of_nonneg (by omega)]; rfl]
    refine r_callS (M' := mL_divisor) (pc := 14) (tL_divisor.at 10 rfl) ml_L_48 rfl mw_L_divisor (fits_rm (by omega) (by decide)) (hC) rfl rfl (Nat.le_of_ble_eq_true rfl) (Nat.le_of_ble_eq_true rfl) (Nat.le_of_ble_eq_true rfl) ?_
    rintro _ _ _ ⟨rfl, rfl, rfl⟩
    refine r_lret (pc := 17) (tL_divisor.at 11 rfl) rfl (Nat.le_of_ble_eq_true rfl) (Nat.le_of_ble_eq_true rfl) ?_
    rw [Nat.gcd_comm a b, Nat.gcd_rec b a, Nat.gcd_comm]
    exact ⟨rfl, rfl, rfl⟩
  intro k
  induction k with
  | zero =>
    intro a b hb ha hb2
    have : b = 0 := by omega
    subst this
    exact one 0 a ha
  | succ k ih =>
    intro a b hb ha hb2
    rw [Nat.pow_succ] at hb
    rcases Nat.eq_zero_or_pos b with rfl | hb0
    · exact one (2 * (k + 1)) a ha
    · have hr := Nat.mod_lt a hb0
      refine step (2 * (k + 1)) a b hb0 ha hb2 ?_
      rcases Nat.eq_zero_or_pos (a % b) with e | hr0
      · rw [e]
        exact one (2 * k + 1) b hb2
      · refine step (2 * k + 1) b (a % b) hr0 hb2 (by omega) (ih (a % b) (b % (a % b)) ?_ (by omega) ?_)
        · have h2 := Nat.mod_lt b hr0
          rcases Nat.lt_or_ge b (2 * (a % b)) with q | q
          · have h3 : b % (a % b) = b - a % b := by
              rw [Nat.mod_eq_sub_mod (by omega), Nat.mod_eq_of_lt (by omega)]
            omega
          · omega
        · have h2 := Nat.mod_lt b hr0
          omega
theorem c_lAbs {v : Ev} {h : Hp} {top y u : Nat} {S : LT} (L : isLw v h y S) (ha : S.a < 64) (hu : u < 6) : Cal v mL_isAbsorbing 1 0 0 [.ref y, .int (nI u)] h top (pR (.int (nI (Bool.toNat (S.a.testBit u)))) h top) noX := by
  refine Cal.ofJ (by decide +kernel) rfl (Nat.le_of_ble_eq_true rfl) fun hz0 => ?_
  refine r_ls [some (.ref y), some (.int (nI u))] rfl ?_
  refine r_aload_n (pc := 0) (i := 0) (tL_isAbsorbing.at 0 rfl) rfl rfl ?_
  refine r_get (pc := 1) (tL_isAbsorbing.at 1 rfl) gf_L_71 (L.1) rfl ?_
  refine r_iload_n (pc := 4) (i := 1) (tL_isAbsorbing.at 2 rfl) rfl rfl ?_
  refine r_ishr (pc := 5) (tL_isAbsorbing.at 3 rfl) ?_
  refine r_iconst (pc := 6) (w := nI 1) (tL_isAbsorbing.at 4 rfl) (by decide) ?_
  refine r_iand (pc := 7) (tL_isAbsorbing.at 5 rfl) ?_
  refine r_iconst (pc := 8) (w := nI 1) (tL_isAbsorbing.at 6 rfl) (by decide) ?_
  rw [bs_sh _ ha u (by omega)]
  have hb : Bool.toNat (S.a.testBit u) ≤ 1 := Bool.toNat_le _
  refine r_icmp_neN (pc := 9) 16 (tL_isAbsorbing.at 7 rfl) (by decide) (by omega) (by omega) (fun c => ?_) (fun c => ?_)
  · refine r_iconst (pc := 16) (w := nI 0) (tL_isAbsorbing.at 10 rfl) (by decide) ?_
    refine r_zret (pc := 17) (tL_isAbsorbing.at 11 rfl) rfl (rfl) (Nat.le_of_ble_eq_true rfl) (Nat.le_of_ble_eq_true rfl) ?_
    rw [show Bool.toNat (S.a.testBit u) = 0 by omega]
    exact ⟨rfl, rfl, rfl⟩
  · refine r_iconst (pc := 12) (w := nI 1) (tL_isAbsorbing.at 8 rfl) (by decide) ?_
    refine r_goto (pc := 13) 17 (tL_isAbsorbing.at 9 rfl) (by decide) ?_
    refine r_zret (pc := 17) (tL_isAbsorbing.at 11 rfl) rfl (rfl) (Nat.le_of_ble_eq_true rfl) (Nat.le_of_ble_eq_true rfl) ?_
    rw [show Bool.toNat (S.a.testBit u) = 1 by omega]
    exact ⟨rfl, rfl, rfl⟩
def zF (S : Nat) : Nat → Int32 := fun u => nI (Bool.toNat (S.testBit u))
theorem zF_or0 (S b : Nat) : upd (zF S) b (vp_nar .boolean (nI (Bool.toNat (S.testBit b)) ||| nI 0)) = zF S := by
  funext k
  unfold upd
  by_cases e : k = b
  · rw [if_pos e, e]
    show vp_nar .boolean (nI (Bool.toNat (S.testBit b)) ||| nI 0) = nI (Bool.toNat (S.testBit b))
    cases S.testBit b <;> decide
  · rw [if_neg e]
theorem zF_or1 (S b : Nat) : upd (zF S) b (vp_nar .boolean (nI (Bool.toNat (S.testBit b)) ||| nI 1)) = zF (S ||| 2 ^ b) := by
  funext k
  unfold upd zF
  rw [Nat.testBit_or, Nat.testBit_two_pow]
  by_cases e : k = b
  · rw [if_pos e, e]
    cases S.testBit b <;> simp <;> decide
  · rw [if_neg e]
    have : decide (b = k) = false := decide_eq_false (fun z => e z.symm)
    rw [this, Bool.or_false]
theorem zF_st (b : Nat) : upd (fun _ => (0 : Int32)) b (vp_nar .boolean (nI 1)) = zF (2 ^ b) := by
  funext k
  unfold upd zF
  rw [Nat.testBit_two_pow]
  by_cases e : k = b
  · rw [if_pos e, e]
    simp
    decide
  · rw [if_neg e]
    have : decide (b = k) = false := decide_eq_false (fun z => e z.symm)
    rw [this]
    rfl
theorem c_reached {v : Ev} {h : Hp} {top y x : Nat} {S : LT} (L : isLw v h y S) (hyt : y + 18 ≤ top) (hn : S.n ≤ 6) (hW : ∀ k, k < 36 → S.W k ≤ 9) (hx : x < S.n) : Cal v mL_reached 1 1 6 [.ref y, .int (nI x)] h top (fun r h' top' => r = some (.ref top) ∧ top' = top + 1 ∧ h' = hp h top (aZ v S.n (zF (riR S.W S.n x S.n)))) noX := by
  have L2 : ∀ e, isLw v (hp h top e) y S := fun e => L.up hyt
  refine Cal.ofJ (by decide +kernel) rfl (Nat.le_of_ble_eq_true rfl) fun hz0 => ?_
  refine r_ls [some (.ref y), some (.int (nI x)), none, none, none, none] rfl ?_
  refine r_aload_n (pc := 0) (i := 0) (tL_reached.at 0 rfl) rfl rfl ?_
  refine r_get (pc := 1) (tL_reached.at 1 rfl) gf_L_52 (L.1) rfl ?_
  refine r_newaZ (pc := 4) S.n (tL_reached.at 2 rfl) rfl (by omega) ac_boolean (Nat.le_of_ble_eq_true rfl) (by show 0 + S.n ≤ 6; omega) (fun fr => ?_)
  refine r_widen (c2 := 1) (s2 := 6) (by omega) (by omega) ?_
  refine r_astore_n (pc := 6) (i := 2) (tL_reached.at 3 rfl) rfl (by decide) ?_
  refine r_aload_n (pc := 7) (i := 2) (tL_reached.at 4 rfl) rfl rfl ?_
  refine r_iload_n (pc := 8) (i := 1) (tL_reached.at 5 rfl) rfl rfl ?_
  refine r_iconst (pc := 9) (w := nI 1) (tL_reached.at 6 rfl) (by decide) ?_
  refine r_zast (pc := 10) (tL_reached.at 7 rfl) (hp_eq _ _ _) (x) (rfl) (by omega) (by omega) ?_
  refine r_iconst (pc := 11) (w := nI 0) (tL_reached.at 8 rfl) (by decide) ?_
  refine r_istore_n (pc := 12) (i := 3) (tL_reached.at 9 rfl) rfl (by decide) ?_
  rw [zF_st, hp_hp]
  have key : ∀ r, r ≤ S.n → J v mL_reached (rmOf 1 1 6) (KM v (fun r h' top' => r = some (.ref top) ∧ top' = top + 1 ∧ h' = hp h top (aZ v S.n (zF (riR S.W S.n x S.n)))) noX 1 6) top 1 6 (hp h top (aZ v S.n (zF (riR S.W S.n x r)))) (top + 1) 13 [some (.ref y), some (.int (nI x)), some (.ref top), some (.int (nI r)), none, none] [] := by
    refine down ?_ ?_
    · refine r_iload_n (pc := 13) (i := 3) (tL_reached.at 10 rfl) rfl rfl ?_
      refine r_aload_n (pc := 14) (i := 0) (tL_reached.at 11 rfl) rfl rfl ?_
      refine r_get (pc := 15) (tL_reached.at 12 rfl) gf_L_52 ((L2 _).1) rfl ?_
      refine r_icmp_geN (pc := 18) 95 (tL_reached.at 13 rfl) (by decide) (by omega) (by omega) (fun _ => ?_) (fun c => by omega)
      refine r_aload_n (pc := 95) (i := 2) (tL_reached.at 52 rfl) rfl rfl ?_
      refine r_aret (pc := 96) (tL_reached.at 53 rfl) rfl (Or.inr ⟨_, rfl⟩) (Nat.le_of_ble_eq_true rfl) (Nat.le_of_ble_eq_true rfl) ?_
      exact ⟨rfl, rfl, rfl⟩
    · intro r hr ih
      refine r_iload_n (pc := 13) (i := 3) (tL_reached.at 10 rfl) rfl rfl ?_
      refine r_aload_n (pc := 14) (i := 0) (tL_reached.at 11 rfl) rfl rfl ?_
      refine r_get (pc := 15) (tL_reached.at 12 rfl) gf_L_52 ((L2 _).1) rfl ?_
      refine r_icmp_geN (pc := 18) 95 (tL_reached.at 13 rfl) (by decide) (by omega) (by omega) (fun c => by omega) (fun _ => ?_)
      refine r_iconst (pc := 21) (w := nI 0) (tL_reached.at 14 rfl) (by decide) ?_
      refine r_istore (pc := 22) (i := 4) (tL_reached.at 15 rfl) (by decide) ?_
      have key2 : ∀ a, a ≤ S.n → J v mL_reached (rmOf 1 1 6) (KM v (fun r h' top' => r = some (.ref top) ∧ top' = top + 1 ∧ h' = hp h top (aZ v S.n (zF (riR S.W S.n x S.n)))) noX 1 6) top 1 6 (hp h top (aZ v S.n (zF (riA S.W S.n (riR S.W S.n x r) a)))) (top + 1) 24 [some (.ref y), some (.int (nI x)), some (.ref top), some (.int (nI r)), some (.int (nI a)), none] [] := by
        refine down ?_ ?_
        · refine r_iload (pc := 24) (i := 4) (tL_reached.at 16 rfl) rfl ?_
          refine r_aload_n (pc := 26) (i := 0) (tL_reached.at 17 rfl) rfl rfl ?_
          refine r_get (pc := 27) (tL_reached.at 18 rfl) gf_L_52 ((L2 _).1) rfl ?_
          refine r_icmp_geN (pc := 30) 89 (tL_reached.at 19 rfl) (by decide) (by omega) (by omega) (fun _ => ?_) (fun c => by omega)
          first | refine r_iincN (pc := 89) (tL_reached.at 50 rfl) rfl (by decide) ?_ | refine r_iinc (pc := 89) (tL_reached.at 50 rfl) rfl rfl (by decide) ?_
          refine r_goto (pc := 92) 13 (tL_reached.at 51 rfl) (by decide) ?_
          exact r_sub _ (fun i w hw => by
            match i, hw with
            | 0, hw => exact hw
            | 1, hw => exact hw
            | 2, hw => exact hw
            | 3, hw => exact hw
            | 4, hw => cases hw
            | 5, hw => cases hw) ih
        · intro a ha ih2
          refine r_iload (pc := 24) (i := 4) (tL_reached.at 16 rfl) rfl ?_
          refine r_aload_n (pc := 26) (i := 0) (tL_reached.at 17 rfl) rfl rfl ?_
          refine r_get (pc := 27) (tL_reached.at 18 rfl) gf_L_52 ((L2 _).1) rfl ?_
          refine r_icmp_geN (pc := 30) 89 (tL_reached.at 19 rfl) (by decide) (by omega) (by omega) (fun c => by omega) (fun _ => ?_)
          refine r_iconst (pc := 33) (w := nI 0) (tL_reached.at 20 rfl) (by decide) ?_
          refine r_istore (pc := 34) (i := 5) (tL_reached.at 21 rfl) (by decide) ?_
          have key3 : ∀ b, b ≤ S.n → J v mL_reached (rmOf 1 1 6) (KM v (fun r h' top' => r = some (.ref top) ∧ top' = top + 1 ∧ h' = hp h top (aZ v S.n (zF (riR S.W S.n x S.n)))) noX 1 6) top 1 6 (hp h top (aZ v S.n (zF (riB S.W a (riA S.W S.n (riR S.W S.n x r) a) b)))) (top + 1) 36 [some (.ref y), some (.int (nI x)), some (.ref top), some (.int (nI r)), some (.int (nI a)), some (.int (nI b))] [] := by
            refine down ?_ ?_
            · refine r_iload (pc := 36) (i := 5) (tL_reached.at 22 rfl) rfl ?_
              refine r_aload_n (pc := 38) (i := 0) (tL_reached.at 23 rfl) rfl rfl ?_
              refine r_get (pc := 39) (tL_reached.at 24 rfl) gf_L_52 ((L2 _).1) rfl ?_
              refine r_icmp_geN (pc := 42) 83 (tL_reached.at 25 rfl) (by decide) (by omega) (by omega) (fun _ => ?_) (fun c => by omega)
              first | refine r_iincN (pc := 83) (tL_reached.at 48 rfl) rfl (by decide) ?_ | refine r_iinc (pc := 83) (tL_reached.at 48 rfl) rfl rfl (by decide) ?_
              refine r_goto (pc := 86) 24 (tL_reached.at 49 rfl) (by decide) ?_
              exact r_sub _ (fun i w hw => by
                match i, hw with
                | 0, hw => exact hw
                | 1, hw => exact hw
                | 2, hw => exact hw
                | 3, hw => exact hw
                | 4, hw => exact hw
                | 5, hw => cases hw) ih2
            · intro b hb ih3
              have hw := hW (a * 6 + b) (by omega)
              generalize hQ : riB S.W a (riA S.W S.n (riR S.W S.n x r) a) b = Q at *
              have hba : Bool.toNat (Q.testBit a) ≤ 1 := Bool.toNat_le _
              have hQ2 : riB S.W a (riA S.W S.n (riR S.W S.n x r) a) (b + 1) = if Q.testBit a = true ∧ 0 < S.W (a * 6 + b) then Q ||| 2 ^ b else Q := by rw [riB, hQ]
              rw [hQ2] at ih3
              refine r_iload (pc := 36) (i := 5) (tL_reached.at 22 rfl) rfl ?_
              refine r_aload_n (pc := 38) (i := 0) (tL_reached.at 23 rfl) rfl rfl ?_
              refine r_get (pc := 39) (tL_reached.at 24 rfl) gf_L_52 ((L2 _).1) rfl ?_
              refine r_icmp_geN (pc := 42) 83 (tL_reached.at 25 rfl) (by decide) (by omega) (by omega) (fun c => by omega) (fun _ => ?_)
              refine r_aload_n (pc := 45) (i := 2) (tL_reached.at 26 rfl) rfl rfl ?_
              refine r_iload (pc := 46) (i := 5) (tL_reached.at 27 rfl) rfl ?_
              first | refine r_dup2_11 (pc := 48) (tL_reached.at 28 rfl) rfl rfl ?_ | refine r_dup2_2 (pc := 48) (tL_reached.at 28 rfl) rfl ?_
              refine r_zald (pc := 49) (tL_reached.at 29 rfl) (hp_eq _ _ _) (b) (rfl) (by omega) (by omega) ?_
              refine r_aload_n (pc := 50) (i := 2) (tL_reached.at 30 rfl) rfl rfl ?_
              refine r_iload (pc := 51) (i := 4) (tL_reached.at 31 rfl) rfl ?_
              refine r_zald (pc := 53) (tL_reached.at 32 rfl) (hp_eq _ _ _) (a) (rfl) (by omega) (by omega) ?_
              refine r_if_eqN (pc := 54) 74 (tL_reached.at 33 rfl) (by decide) (show Bool.toNat (Q.testBit a) < 2147483648 by omega) (fun c => ?_) (fun c => ?_)
              · refine r_iconst (pc := 74) (w := nI 0) (tL_reached.at 43 rfl) (by decide) ?_
                refine r_ior (pc := 75) (tL_reached.at 44 rfl) ?_
                refine r_zast (pc := 76) (tL_reached.at 45 rfl) (hp_eq _ _ _) b rfl (by omega) (by omega) ?_
                show J _ _ _ _ _ _ _ (hp _ _ (aZ v S.n (upd (zF Q) b (vp_nar .boolean (nI (Bool.toNat (Q.testBit b)) ||| nI 0))))) _ _ _ _
                rw [zF_or0, hp_hp]
                rw [if_neg (by intro q; rw [q.1] at c; cases c)] at ih3
                first | refine r_iincN (pc := 77) (tL_reached.at 46 rfl) rfl (by decide) ?_ | refine r_iinc (pc := 77) (tL_reached.at 46 rfl) rfl rfl (by decide) ?_
                refine r_goto (pc := 80) 36 (tL_reached.at 47 rfl) (by decide) ?_
                exact ih3
              · refine r_aload_n (pc := 57) (i := 0) (tL_reached.at 34 rfl) rfl rfl ?_
                refine r_get (pc := 58) (tL_reached.at 35 rfl) gf_L_9 ((L2 _).1) rfl ?_
                refine r_iload (pc := 61) (i := 4) (tL_reached.at 36 rfl) rfl ?_
                refine r_aaldQ (pc := 63) (tL_reached.at 37 rfl) ((L2 _).2.1) (a) rfl (by omega) (Nat.le_of_ble_eq_true rfl) ?_
                rw [rwQ_at (by omega)]
                refine r_iload (pc := 64) (i := 5) (tL_reached.at 38 rfl) rfl ?_
                refine r_iald (pc := 66) (tL_reached.at 39 rfl) ((L2 _).2.2.1 a (by omega)) (b) (rfl) (by omega) (by omega) ?_
                rw [rowF_at (by omega)]
                refine r_if_leN (pc := 67) 74 (tL_reached.at 40 rfl) (by decide) (show S.W (a * 6 + b) < 2147483648 by omega) (fun c2 => ?_) (fun c2 => ?_)
                · refine r_iconst (pc := 74) (w := nI 0) (tL_reached.at 43 rfl) (by decide) ?_
                  refine r_ior (pc := 75) (tL_reached.at 44 rfl) ?_
                  refine r_zast (pc := 76) (tL_reached.at 45 rfl) (hp_eq _ _ _) b rfl (by omega) (by omega) ?_
                  show J _ _ _ _ _ _ _ (hp _ _ (aZ v S.n (upd (zF Q) b (vp_nar .boolean (nI (Bool.toNat (Q.testBit b)) ||| nI 0))))) _ _ _ _
                  rw [zF_or0, hp_hp]
                  rw [if_neg (by intro q; have := q.2; omega)] at ih3
                  first | refine r_iincN (pc := 77) (tL_reached.at 46 rfl) rfl (by decide) ?_ | refine r_iinc (pc := 77) (tL_reached.at 46 rfl) rfl rfl (by decide) ?_
                  refine r_goto (pc := 80) 36 (tL_reached.at 47 rfl) (by decide) ?_
                  exact ih3
                · refine r_iconst (pc := 70) (w := nI 1) (tL_reached.at 41 rfl) (by decide) ?_
                  refine r_goto (pc := 71) 75 (tL_reached.at 42 rfl) (by decide) ?_
                  refine r_ior (pc := 75) (tL_reached.at 44 rfl) ?_
                  refine r_zast (pc := 76) (tL_reached.at 45 rfl) (hp_eq _ _ _) b rfl (by omega) (by omega) ?_
                  show J _ _ _ _ _ _ _ (hp _ _ (aZ v S.n (upd (zF Q) b (vp_nar .boolean (nI (Bool.toNat (Q.testBit b)) ||| nI 1))))) _ _ _ _
                  rw [zF_or1, hp_hp]
                  rw [if_pos ⟨by cases q : Q.testBit a <;> simp_all, c2⟩] at ih3
                  first | refine r_iincN (pc := 77) (tL_reached.at 46 rfl) rfl (by decide) ?_ | refine r_iinc (pc := 77) (tL_reached.at 46 rfl) rfl rfl (by decide) ?_
                  refine r_goto (pc := 80) 36 (tL_reached.at 47 rfl) (by decide) ?_
                  exact ih3
          exact key3 0 (by omega)
      exact key2 0 (by omega)
  exact key 0 (by omega)

