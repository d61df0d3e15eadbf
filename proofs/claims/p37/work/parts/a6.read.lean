/-! ===== the law: read ===== -/
theorem nI_shl8 (a : Nat) : (nI a <<< (nI 8 &&& 31)) = nI (a * 256) := by
  apply Int32.toBitVec_inj.mp
  rw [Int32.toBitVec_shiftLeft]
  show (BitVec.ofNat 32 a) <<< 8 = BitVec.ofNat 32 (a * 256)
  apply BitVec.eq_of_toNat_eq
  rw [BitVec.toNat_shiftLeft, BitVec.toNat_ofNat, BitVec.toNat_ofNat, Nat.shiftLeft_eq]
  omega
theorem nI_orc {a c : Nat} (ha : a < 8388608) (hc : c < 256) : (nI (a * 256) ||| nI c) = nI (a * 256 + c) := by
  apply Int32.toBitVec_inj.mp
  apply BitVec.eq_of_toNat_eq
  rw [Int32.toBitVec_or, BitVec.toNat_or]
  show (BitVec.ofNat 32 (a * 256)).toNat ||| (BitVec.ofNat 32 c).toNat = (BitVec.ofNat 32 (a * 256 + c)).toNat
  rw [BitVec.toNat_ofNat, BitVec.toNat_ofNat, BitVec.toNat_ofNat, Nat.mod_eq_of_lt (show a * 256 < 2 ^ 32 by omega), Nat.mod_eq_of_lt (show c < 2 ^ 32 by omega), Nat.mod_eq_of_lt (show a * 256 + c < 2 ^ 32 by omega)]
  have := Nat.two_pow_add_eq_or_of_lt (i := 8) (b := c) (by omega) a
  rw [show a * 256 = 2 ^ 8 * a by omega]
  exact this.symm
theorem nI_shrk {w : Nat} (hw : w < 2147483648) (k : Nat) (hk : k = 0 ∨ k = 8 ∨ k = 16 ∨ k = 24) : (nI w >>> (nI k &&& 31)) = nI (w / 2 ^ k) := by
  apply Int32.toInt_inj.mp
  have hd : w / 2 ^ k ≤ w := Nat.div_le_self _ _
  rw [nI_toInt (n := w / 2 ^ k) (by omega)]
  have e1 : (nI w >>> (nI k &&& 31)).toInt = (nI w).toInt >>> k := by
    show ((nI w >>> (nI k &&& 31)).toBitVec).toInt = _
    rw [Int32.toBitVec_shiftRight]
    have e2 : ((nI k &&& 31).toBitVec.smod 32).toNat = k := by
      rcases hk with rfl | rfl | rfl | rfl <;> decide
    show ((nI w).toBitVec.sshiftRight ((nI k &&& 31).toBitVec.smod 32).toNat).toInt = _
    rw [e2, BitVec.toInt_sshiftRight]
    rfl
  rw [e1, nI_toInt (by omega), Int.shiftRight_eq_div_pow]
  rfl
theorem uB_nI {m : Nat} (hm : m < 2147483648) : uB (nI m) = m % 256 := by
  show (BitVec.ofNat 32 m).toNat % 256 = m % 256
  rw [BitVec.toNat_ofNat, Nat.mod_eq_of_lt (show m < 2 ^ 32 by omega)]
theorem uB_shr {w : Nat} (hw : w < 2147483648) (k : Nat) (hk : k = 0 ∨ k = 8 ∨ k = 16 ∨ k = 24) : uB (nI w >>> (nI k &&& 31)) = w / 2 ^ k % 256 := by
  rw [nI_shrk hw k hk, uB_nI (Nat.lt_of_le_of_lt (Nat.div_le_self _ _) hw)]
def pk4 (c : Nat → Nat) (j : Nat) : Nat → Nat
  | 0 => 0
  | m + 1 => pk4 c j m * 256 + c (4 * j + m)
theorem pk4_lt {c : Nat → Nat} (hc : ∀ k, c k < 128) (j : Nat) : pk4 c j 1 < 128 ∧ pk4 c j 2 < 32768 ∧ pk4 c j 3 < 8388608 ∧ pk4 c j 4 < 2147483648 := by
  have h0 := hc (4 * j + 0)
  have h1 := hc (4 * j + 1)
  have h2 := hc (4 * j + 2)
  have h3 := hc (4 * j + 3)
  simp only [pk4]
  omega
theorem pk4_le {c : Nat → Nat} (hc : ∀ k, c k < 128) (j : Nat) {m : Nat} (hm : m < 4) : pk4 c j m < 8388608 := by
  obtain ⟨h1, h2, h3, -⟩ := pk4_lt hc j
  match m, hm with
  | 0, _ => show 0 < _; omega
  | 1, _ => omega
  | 2, _ => omega
  | 3, _ => exact h3
def wF (c : Nat → Nat) (k : Nat) : Nat → Int32 := fun j => nI (pk4 c j (min 4 (k - 4 * j)))
theorem wF_0 {c : Nat → Nat} : wF c 0 = fun _ => 0 := by
  funext j
  unfold wF
  rw [Nat.zero_sub, Nat.min_zero]
  rfl
theorem wF_up {c : Nat → Nat} {k : Nat} : upd (wF c k) (k / 4) (nI (pk4 c (k / 4) (k - 4 * (k / 4)) * 256 + c k)) = wF c (k + 1) := by
  funext j
  unfold upd wF
  by_cases e : j = k / 4
  · rw [if_pos e, e, show min 4 (k + 1 - 4 * (k / 4)) = (k - 4 * (k / 4)) + 1 by omega, pk4, show 4 * (k / 4) + (k - 4 * (k / 4)) = k by omega]
  · rw [if_neg e]
    rcases Nat.lt_or_ge j (k / 4) with q | q
    · rw [show min 4 (k - 4 * j) = 4 by omega, show min 4 (k + 1 - 4 * j) = 4 by omega]
    · rw [show min 4 (k - 4 * j) = 0 by omega, show min 4 (k + 1 - 4 * j) = 0 by omega]
theorem wF_at {c : Nat → Nat} {k j : Nat} (h : j = k / 4) : wF c k j = nI (pk4 c j (k - 4 * j)) := by
  unfold wF
  rw [show min 4 (k - 4 * j) = k - 4 * j by omega]
theorem hld_pk {c : Nat → Nat} (hc : ∀ k, c k < 128) (b : Nat → Nat) (n j k : Nat) : hld b n (nI (pk4 c j 4)) k = if n ≤ k ∧ k < n + 4 then c (4 * j + (k - n)) else b k := by
  obtain ⟨-, -, -, h4⟩ := pk4_lt hc j
  have h0 := hc (4 * j + 0)
  have h1 := hc (4 * j + 1)
  have h2 := hc (4 * j + 2)
  have h3 := hc (4 * j + 3)
  unfold hld
  rw [uB_shr h4 24 (by omega), uB_shr h4 16 (by omega), uB_shr h4 8 (by omega), uB_shr h4 0 (by omega)]
  unfold upN
  have e : pk4 c j 4 = ((c (4 * j + 0) * 256 + c (4 * j + 1)) * 256 + c (4 * j + 2)) * 256 + c (4 * j + 3) := by
    simp only [pk4]
    omega
  generalize pk4 c j 4 = w at *
  by_cases k3 : k = n + 3
  · rw [if_pos k3, if_pos (by omega), show k - n = 3 by omega]
    omega
  · rw [if_neg k3]
    by_cases k2 : k = n + 2
    · rw [if_pos k2, if_pos (by omega), show k - n = 2 by omega]
      omega
    · rw [if_neg k2]
      by_cases k1 : k = n + 1
      · rw [if_pos k1, if_pos (by omega), show k - n = 1 by omega]
        omega
      · rw [if_neg k1]
        by_cases k0 : k = n
        · rw [if_pos k0, if_pos (by omega), show k - n = 0 by omega]
          omega
        · rw [if_neg k0, if_neg (by omega)]
/-- what the law appends: the text, then blanks -/
def chT (L : List Nat) (i : Nat) : Nat → Nat := fun k => if i + k < L.length then L.getD (i + k) 0 else 32
theorem chT_lt {L : List Nat} (ok : okTx L) (i k : Nat) : chT L i k < 128 := by
  unfold chT
  split
  · exact ok.2 _ (by assumption)
  · omega
theorem ap5_ch {L : List Nat} (ok : okTx L) (b : Nat → Nat) (n i k : Nat) : ap5 b n (wF (chT L i) 20 0) (wF (chT L i) 20 1) (wF (chT L i) 20 2) (wF (chT L i) 20 3) (wF (chT L i) 20 4) k = if n ≤ k ∧ k < n + 20 then chT L i (k - n) else b k := by
  have hc : ∀ k, chT L i k < 128 := chT_lt ok i
  unfold ap5
  have w : ∀ j, j < 5 → wF (chT L i) 20 j = nI (pk4 (chT L i) j 4) := fun j hj => by
    unfold wF
    rw [show min 4 (20 - 4 * j) = 4 by omega]
  rw [w 0 (by omega), w 1 (by omega), w 2 (by omega), w 3 (by omega), w 4 (by omega), hld_pk hc, hld_pk hc, hld_pk hc, hld_pk hc, hld_pk hc]
  by_cases c4 : n + 16 ≤ k ∧ k < n + 16 + 4
  · rw [if_pos c4, if_pos (by omega)]
    exact congrArg _ (by omega)
  · rw [if_neg c4]
    by_cases c3 : n + 12 ≤ k ∧ k < n + 12 + 4
    · rw [if_pos c3, if_pos (by omega)]
      exact congrArg _ (by omega)
    · rw [if_neg c3]
      by_cases c2 : n + 8 ≤ k ∧ k < n + 8 + 4
      · rw [if_pos c2, if_pos (by omega)]
        exact congrArg _ (by omega)
      · rw [if_neg c2]
        by_cases c1 : n + 4 ≤ k ∧ k < n + 4 + 4
        · rw [if_pos c1, if_pos (by omega)]
          exact congrArg _ (by omega)
        · rw [if_neg c1]
          by_cases c0 : n ≤ k ∧ k < n + 4
          · rw [if_pos c0, if_pos (by omega)]
            exact congrArg _ (by omega)
          · rw [if_neg c0, if_neg (by omega)]
def pRd (v : Ev) (h : Hp) (top x : Nat) (L : List Nat) (Z : CS) : Option Value → Hp → Nat → Prop := fun r h' top' => ∃ (h1 : Hp) (top1 : Nat) (b : Nat → Nat) (hd : Nat), frT h h1 top x ∧ top ≤ top1 ∧ (∀ k, k < L.length → b k = L.getD k 0) ∧ (∀ k, b k < 256) ∧ pLd v h1 top1 x L.length ((Z.1.1, b, hd), Z.2) r h' top'
theorem c_read {v : Ev} {h : Hp} {top x q : Nat} {L : List Nat} {Z : CS} (K : okX v h x Z) (z : okZ Z) (hhd : Z.1.2.2 = 0) (hb0 : ∀ k, Z.1.2.1 k < 256) (hxt : x + 96 ≤ top) (hq : ∀ h1, frT h h1 top x → isS v h1 q L) (ok : okTx L) (hl : L.length ≤ 200) : Cal v mL_read 11 12 700 [.ref x, .ref q] h top (pRd v h top x L Z) noX := by
  refine Cal.ofJ (by decide +kernel) rfl (Nat.le_of_ble_eq_true rfl) fun hz0 => ?_
  refine r_ls [some (.ref x), some (.ref q), none, none, none] rfl ?_
  refine r_iconst (pc := 0) (w := nI 0) (tL_read.at 0 rfl) (by decide) ?_
  refine r_istore_n (pc := 1) (i := 2) (tL_read.at 1 rfl) rfl (by decide) ?_
  have ex : ∀ j, j ≤ 11 → L.length ≤ 20 * j → ∀ (h1 : Hp) (b : Nat → Nat) (o3 o4 : Option Value), okX v h1 x ((Z.1.1, b, 20 * j), Z.2) → (∀ k, k < 20 * j → k < L.length → b k = L.getD k 0) → (∀ k, b k < 256) → frT h h1 top x →
      J v mL_read (rmOf 11 12 700) (KM v (pRd v h top x L Z) noX 12 700) top j (5 * j) h1 (top + j) 101 [some (.ref x), some (.ref q), some (.int (nI (20 * j))), o3, o4] [] := by
    intro j hj hlj h1 b o3 o4 K1 hbb hb9 f1
    have z1 : okZ ((Z.1.1, b, 20 * j), Z.2) := ⟨z.1, z.2.1, z.2.2.1, z.2.2.2.1, by show 20 * j ≤ 600; omega⟩
    refine r_aload_n (pc := 101) (i := 0) (tL_read.at 64 rfl) rfl rfl ?_
    refine r_aload_n (pc := 102) (i := 1) (tL_read.at 65 rfl) rfl rfl ?_
    refine r_sCall (M' := mJ0_length_8abf5) (pc := 103) (tL_read.at 66 rfl) ml_L_28 rfl mw_J0_length_8abf5 ⟨by decide, by decide⟩ (hq h1 f1) rfl (c_sLen (hq h1 f1)) rfl rfl (Nat.le_of_ble_eq_true rfl) (by show _ ≤ 12; omega) (by show _ ≤ 700; omega) ?_
    rintro _ _ _ ⟨rfl, rfl, rfl⟩
    refine r_callV (M' := mX10_load) (pc := 106) (tL_read.at 67 rfl) ml_L_44 rfl mw_X10_load ⟨by decide, by decide⟩ (K1.1.1) rfl rfl (c_load K1 z1 hb9 hlj (by omega)) rfl rfl (Nat.le_of_ble_eq_true rfl) (by show _ ≤ 12; omega) (by show _ ≤ 700; omega) ?_
    rintro rv h2 top2 p2
    have p3 : ∃ w, rv = some (.int w) := by
      obtain ⟨R1, -, -, -, e, -⟩ := p2
      exact ⟨_, e⟩
    obtain ⟨w, rfl⟩ := p3
    refine r_iret (pc := 109) (tL_read.at 68 rfl) rfl (by omega) (by omega) ?_
    exact ⟨h1, top + j, b, 20 * j, f1, by omega, fun k hk => hbb k (by omega) hk, hb9, p2⟩
  have key : ∀ m j, m + j = 11 → ∀ (h1 : Hp) (b : Nat → Nat) (o3 o4 : Option Value), okX v h1 x ((Z.1.1, b, 20 * j), Z.2) → (∀ k, k < 20 * j → k < L.length → b k = L.getD k 0) → (∀ k, b k < 256) → frT h h1 top x →
      J v mL_read (rmOf 11 12 700) (KM v (pRd v h top x L Z) noX 12 700) top j (5 * j) h1 (top + j) 2 [some (.ref x), some (.ref q), some (.int (nI (20 * j))), o3, o4] [] := by
    intro m
    induction m with
    | zero =>
      intro j hj h1 b o3 o4 K1 hbb hb9 f1
      refine r_iload_n (pc := 2) (i := 2) (tL_read.at 2 rfl) rfl rfl ?_
      refine r_aload_n (pc := 3) (i := 1) (tL_read.at 3 rfl) rfl rfl ?_
      refine r_sCall (M' := mJ0_length_8abf5) (pc := 4) (tL_read.at 4 rfl) ml_L_28 rfl mw_J0_length_8abf5 ⟨by decide, by decide⟩ (hq h1 f1) rfl (c_sLen (hq h1 f1)) rfl rfl (Nat.le_of_ble_eq_true rfl) (by show _ ≤ 12; omega) (by show _ ≤ 700; omega) ?_
      rintro _ _ _ ⟨rfl, rfl, rfl⟩
      refine r_icmp_geN (pc := 7) 101 (tL_read.at 5 rfl) (by decide) (by omega) (by omega) (fun _ => ?_) (fun c => by omega)
      exact ex j (by omega) (by omega) h1 b o3 o4 K1 hbb hb9 f1
    | succ m ih =>
      intro j hj h1 b o3 o4 K1 hbb hb9 f1
      refine r_iload_n (pc := 2) (i := 2) (tL_read.at 2 rfl) rfl rfl ?_
      refine r_aload_n (pc := 3) (i := 1) (tL_read.at 3 rfl) rfl rfl ?_
      refine r_sCall (M' := mJ0_length_8abf5) (pc := 4) (tL_read.at 4 rfl) ml_L_28 rfl mw_J0_length_8abf5 ⟨by decide, by decide⟩ (hq h1 f1) rfl (c_sLen (hq h1 f1)) rfl rfl (Nat.le_of_ble_eq_true rfl) (by show _ ≤ 12; omega) (by show _ ≤ 700; omega) ?_
      rintro _ _ _ ⟨rfl, rfl, rfl⟩
      refine r_icmp_geN (pc := 7) 101 (tL_read.at 5 rfl) (by decide) (by omega) (by omega) (fun cl => ?_) (fun cl => ?_)
      · exact ex j (by omega) cl h1 b o3 o4 K1 hbb hb9 f1
      · refine r_iconst (pc := 10) (w := nI 5) (tL_read.at 6 rfl) (by decide) ?_
        refine r_newaI (pc := 11) 5 (tL_read.at 7 rfl) rfl (by omega) ac_int (by show j + 1 ≤ 12; omega) (by show 5 * j + 5 ≤ 700; omega) (fun fr11 => ?_)
        refine r_widen (c2 := j + 1) (s2 := 5 * (j + 1)) (by omega) (by omega) ?_
        rw [show (fun _ => (0 : Int32)) = wF (chT L (20 * j)) 0 from wF_0.symm]
        refine r_astore_n (pc := 13) (i := 3) (tL_read.at 8 rfl) rfl (by decide) ?_
        refine r_iconst (pc := 14) (w := nI 0) (tL_read.at 9 rfl) (by decide) ?_
        refine r_istore (pc := 15) (i := 4) (tL_read.at 10 rfl) (by decide) ?_
        have hcl : ∀ k, chT L (20 * j) k < 128 := chT_lt ok _
        have key2 : ∀ k, k ≤ 20 → J v mL_read (rmOf 11 12 700) (KM v (pRd v h top x L Z) noX 12 700) top (j + 1) (5 * (j + 1)) (hp h1 (top + j) (aI v 5 (wF (chT L (20 * j)) k))) (top + j + 1) 17 [some (.ref x), some (.ref q), some (.int (nI (20 * j))), some (.ref (top + j)), some (.int (nI k))] [] := by
          refine down ?_ ?_
          · have K2 : okX v (hp h1 (top + j) (aI v 5 (wF (chT L (20 * j)) 20))) x ((Z.1.1, b, 20 * j), Z.2) := K1.upT (by omega)
            have z1 : okZ ((Z.1.1, b, 20 * j), Z.2) := ⟨z.1, z.2.1, z.2.2.1, z.2.2.2.1, by show 20 * j ≤ 600; omega⟩
            refine r_iload (pc := 17) (i := 4) (tL_read.at 11 rfl) rfl ?_
            refine r_bipush (pc := 19) (w := nI 20) (tL_read.at 12 rfl) (by decide) ?_
            refine r_icmp_geN (pc := 21) 70 (tL_read.at 13 rfl) (by decide) (by omega) (by omega) (fun _ => ?_) (fun c => by omega)
            refine r_aload_n (pc := 70) (i := 0) (tL_read.at 42 rfl) rfl rfl ?_
            refine r_aload_n (pc := 71) (i := 3) (tL_read.at 43 rfl) rfl rfl ?_
            refine r_iconst (pc := 72) (w := nI 0) (tL_read.at 44 rfl) (by decide) ?_
            refine r_iald (pc := 73) (tL_read.at 45 rfl) (hp_eq _ _ _) (0) (rfl) (by omega) (by omega) ?_
            refine r_aload_n (pc := 74) (i := 3) (tL_read.at 46 rfl) rfl rfl ?_
            refine r_iconst (pc := 75) (w := nI 1) (tL_read.at 47 rfl) (by decide) ?_
            refine r_iald (pc := 76) (tL_read.at 48 rfl) (hp_eq _ _ _) (1) (rfl) (by omega) (by omega) ?_
            refine r_aload_n (pc := 77) (i := 3) (tL_read.at 49 rfl) rfl rfl ?_
            refine r_iconst (pc := 78) (w := nI 2) (tL_read.at 50 rfl) (by decide) ?_
            refine r_iald (pc := 79) (tL_read.at 51 rfl) (hp_eq _ _ _) (2) (rfl) (by omega) (by omega) ?_
            refine r_aload_n (pc := 80) (i := 3) (tL_read.at 52 rfl) rfl rfl ?_
            refine r_iconst (pc := 81) (w := nI 3) (tL_read.at 53 rfl) (by decide) ?_
            refine r_iald (pc := 82) (tL_read.at 54 rfl) (hp_eq _ _ _) (3) (rfl) (by omega) (by omega) ?_
            refine r_aload_n (pc := 83) (i := 3) (tL_read.at 55 rfl) rfl rfl ?_
            refine r_iconst (pc := 84) (w := nI 4) (tL_read.at 56 rfl) (by decide) ?_
            refine r_iald (pc := 85) (tL_read.at 57 rfl) (hp_eq _ _ _) (4) (rfl) (by omega) (by omega) ?_
            refine r_callV (M' := mX10_append) (pc := 86) (tL_read.at 58 rfl) ml_L_38 rfl mw_X10_append ⟨by decide, by decide⟩ (K2.1.1) rfl rfl (c_append K2 z1) rfl rfl (Nat.le_of_ble_eq_true rfl) (by show _ ≤ 12; omega) (by show _ ≤ 700; omega) ?_
            rintro _ h3 top3 ⟨rfl, rfl, K3, f3⟩
            have hle : (((Z.1.1, b, 20 * j), Z.2) : CS).1.2.2 ≤ 580 := by show 20 * j ≤ 580; omega
            rw [if_pos hle] at K3
            rw [if_pos hle]
            refine r_if_geN (pc := 89) 95 (tL_read.at 59 rfl) (by decide) (show 20 * j + 20 < 2147483648 by omega) ?_
            refine r_iinc (pc := 95) (tL_read.at 62 rfl) rfl (show nI (20 * j) + Int32.ofInt 20 = nI (20 * (j + 1)) from by rw [show Int32.ofInt 20 = nI 20 from rfl, nI_add]; rfl) (by decide) ?_
            refine r_goto (pc := 98) 2 (tL_read.at 63 rfl) (by decide) ?_
            refine ih (j + 1) (by omega) h3 _ _ _ K3 (fun k h1 h2 => ?_) (fun k => ?_) (fun a q1 q2 => by rw [f3 a q2, hp_ne _ _ (by omega)]; exact f1 a q1 q2)
            · show ap5 b (20 * j) _ _ _ _ _ k = _
              rw [ap5_ch ok]
              split
              · next cc =>
                unfold chT
                rw [if_pos (by omega), show 20 * j + (k - 20 * j) = k by omega]
              · exact hbb k (by omega) h2
            · show ap5 b (20 * j) _ _ _ _ _ k < 256
              rw [ap5_ch ok]
              split
              · have := hcl (k - 20 * j)
                omega
              · exact hb9 k
          · intro k hk ihk
            have hpk := pk4_le hcl (k / 4) (m := k - 4 * (k / 4)) (by omega)
            have hck := hcl k
            have f2 : frT h (hp h1 (top + j) (aI v 5 (wF (chT L (20 * j)) k))) top x := fun a q1 q2 => by rw [hp_ne _ _ (by omega)]; exact f1 a q1 q2
            rw [← wF_up] at ihk
            refine r_iload (pc := 17) (i := 4) (tL_read.at 11 rfl) rfl ?_
            refine r_bipush (pc := 19) (w := nI 20) (tL_read.at 12 rfl) (by decide) ?_
            refine r_icmp_geN (pc := 21) 70 (tL_read.at 13 rfl) (by decide) (by omega) (by omega) (fun c => by omega) (fun _ => ?_)
            refine r_aload_n (pc := 24) (i := 3) (tL_read.at 14 rfl) rfl rfl ?_
            refine r_iload (pc := 25) (i := 4) (tL_read.at 15 rfl) rfl ?_
            refine r_iconst (pc := 27) (w := nI 4) (tL_read.at 16 rfl) (by decide) ?_
            refine r_idiv (pc := 28) (tL_read.at 17 rfl) (by decide) ?_
            rw [pk_div (a := k) (d := 4) (by omega) (by omega) (by omega)]
            refine r_aload_n (pc := 29) (i := 3) (tL_read.at 18 rfl) rfl rfl ?_
            refine r_iload (pc := 30) (i := 4) (tL_read.at 19 rfl) rfl ?_
            refine r_iconst (pc := 32) (w := nI 4) (tL_read.at 20 rfl) (by decide) ?_
            refine r_idiv (pc := 33) (tL_read.at 21 rfl) (by decide) ?_
            rw [pk_div (a := k) (d := 4) (by omega) (by omega) (by omega)]
            refine r_iald (pc := 34) (tL_read.at 22 rfl) (hp_eq _ _ _) (k / 4) (rfl) (by omega) (by omega) ?_
            refine r_bipush (pc := 35) (w := nI 8) (tL_read.at 23 rfl) (by decide) ?_
            rw [wF_at rfl]
            refine r_ishl (pc := 37) (tL_read.at 24 rfl) ?_
            rw [nI_shl8]
            refine r_iload_n (pc := 38) (i := 2) (tL_read.at 25 rfl) rfl rfl ?_
            refine r_iload (pc := 39) (i := 4) (tL_read.at 26 rfl) rfl ?_
            first | refine r_iaddN (pc := 41) (tL_read.at 27 rfl) ?_ | refine r_iaddZ (pc := 41) (tL_read.at 27 rfl) ?_ | refine r_iadd (pc := 41) (tL_read.at 27 rfl) ?_
            refine r_aload_n (pc := 42) (i := 1) (tL_read.at 28 rfl) rfl rfl ?_
            refine r_sCall (M' := mJ0_length_8abf5) (pc := 43) (tL_read.at 29 rfl) ml_L_28 rfl mw_J0_length_8abf5 ⟨by decide, by decide⟩ (hq _ f2) rfl (c_sLen (hq _ f2)) rfl rfl (Nat.le_of_ble_eq_true rfl) (by show _ ≤ 12; omega) (by show _ ≤ 700; omega) ?_
            rintro _ _ _ ⟨rfl, rfl, rfl⟩
            refine r_icmp_geN (pc := 46) 60 (tL_read.at 30 rfl) (by decide) (by omega) (by omega) (fun cc => ?_) (fun cc => ?_)
            · have e9 : chT L (20 * j) k = 32 := if_neg (by omega)
              rw [e9] at ihk
              refine r_bipush (pc := 60) (w := nI 32) (tL_read.at 37 rfl) (by decide) ?_
              refine r_ior (pc := 62) (tL_read.at 38 rfl) ?_
              rw [nI_orc hpk (by omega)]
              refine r_iast (pc := 63) (tL_read.at 39 rfl) (hp_eq _ _ _) (k / 4) (rfl) (by omega) (by omega) ?_
              rw [hp_hp]
              first | refine r_iincN (pc := 64) (tL_read.at 40 rfl) rfl (by decide) ?_ | refine r_iinc (pc := 64) (tL_read.at 40 rfl) rfl rfl (by decide) ?_
              refine r_goto (pc := 67) 17 (tL_read.at 41 rfl) (by decide) ?_
              exact ihk
            · have e9 : chT L (20 * j) k = L.getD (20 * j + k) 0 := if_pos (by omega)
              rw [e9] at ihk hck
              refine r_aload_n (pc := 49) (i := 1) (tL_read.at 31 rfl) rfl rfl ?_
              refine r_iload_n (pc := 50) (i := 2) (tL_read.at 32 rfl) rfl rfl ?_
              refine r_iload (pc := 51) (i := 4) (tL_read.at 33 rfl) rfl ?_
              first | refine r_iaddN (pc := 53) (tL_read.at 34 rfl) ?_ | refine r_iaddZ (pc := 53) (tL_read.at 34 rfl) ?_ | refine r_iadd (pc := 53) (tL_read.at 34 rfl) ?_
              refine r_sCall (M' := mJ0_charAt_5068e) (pc := 54) (tL_read.at 35 rfl) ml_L_34 rfl mw_J0_charAt_5068e ⟨by decide, by decide⟩ (hq _ f2) rfl (c_sCharAt (hq _ f2) ok cc) rfl rfl (Nat.le_of_ble_eq_true rfl) (by show _ ≤ 12; omega) (by show _ ≤ 700; omega) ?_
              rintro _ _ _ ⟨rfl, rfl, rfl⟩
              refine r_goto (pc := 57) 62 (tL_read.at 36 rfl) (by decide) ?_
              refine r_ior (pc := 62) (tL_read.at 38 rfl) ?_
              rw [nI_orc hpk (by omega)]
              refine r_iast (pc := 63) (tL_read.at 39 rfl) (hp_eq _ _ _) (k / 4) (rfl) (by omega) (by omega) ?_
              rw [hp_hp]
              first | refine r_iincN (pc := 64) (tL_read.at 40 rfl) rfl (by decide) ?_ | refine r_iinc (pc := 64) (tL_read.at 40 rfl) rfl rfl (by decide) ?_
              refine r_goto (pc := 67) 17 (tL_read.at 41 rfl) (by decide) ?_
              exact ihk
        exact key2 0 (by omega)
  exact key 11 0 rfl h Z.1.2.1 none none (by have := K; rw [show Z = ((Z.1.1, Z.1.2.1, 0), Z.2) from by rw [← hhd]] at this; exact this) (fun k hk => absurd hk (by omega)) hb0 (fun a _ _ => rfl)

