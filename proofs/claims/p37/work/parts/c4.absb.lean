/-! ===== the law: the absorbing vertices ===== -/
def aFv (v : Ev) (u : Nat) : Bool := decide ((scF v 11 >>> (nI (2 * u) &&& 31)) &&& nI 3 = 0)
def aMk (v : Ev) : Nat → Nat
  | 0 => 0
  | u + 1 => if aFv v u = true then aMk v u ||| 2 ^ u else aMk v u
theorem aMk_lt (v : Ev) : ∀ u, u ≤ 6 → aMk v u < 64
  | 0, _ => by
    show 0 < 64
    decide
  | u + 1, h => by
    have ih := aMk_lt v u (by omega)
    rw [aMk]
    split
    · exact bs_or_lt (n := 6) ih (p2_64 (by omega))
    · exact ih
/-- what the law has written so far, and at the end -/
def txA (v : Ev) (n u : Nat) : List Nat := wkTx n ++ edT (prE (pWv v) (pFv v) (allP n n)) ++ abT (ascL (aFv v) u)
def lwS (v : Ev) (n u : Nat) : LT := (LSt n (pWv v) (allP n n)).sH n (LSt n (pWv v) (allP n n)).e (aMk v u)
def LA (v : Ev) (h : Hp) (top x n sb u : Nat) : Prop := okX v h x (Z0 v) ∧ isLw v h (x + 96) (lwS v n u) ∧ isSB v h (x + 114) sb (txA v n u) ∧ x + 114 ≤ top
theorem okAll {n : Nat} (hn : n ≤ 5) : okP n (allP n n) ∧ (allP n n).length ≤ 10 := by
  have := pfx_ok n (by omega) n (by omega) 0 (by omega)
  rw [show rowP n 0 = [] from rfl, List.append_nil] at this
  exact ⟨okPb_ok this.1, this.2⟩
theorem LI.la {v : Ev} {h : Hp} {top x n sb : Nat} (hn : n ≤ 5) (I : LI v h top x n sb (allP n n)) : LA v h top x n sb 0 := by
  obtain ⟨K, L, B, ht⟩ := I
  obtain ⟨⟨i1, i2⟩, -⟩ := LSt_inv (w := pWv v) (show n ≤ 6 by omega) _ _ rfl (okAll hn).1
  refine ⟨K, ?_, ?_, ht⟩
  · refine L.like ?_ (fun _ _ => rfl) (fun _ _ => rfl) rfl
    show (n, (LSt n (pWv v) (allP n n)).e, 0) = (LSt n (pWv v) (allP n n)).1
    exact Prod.ext i1.symm (Prod.ext rfl i2.symm)
  · unfold txA
    rw [show abT (ascL (aFv v) 0) = [] from rfl, List.append_nil]
    exact B
theorem abT_len : ∀ l, (abT l).length = 9 * l.length
  | [] => rfl
  | e :: l => by
    show (abTx e ++ abT l).length = _
    rw [List.length_append, abT_len l, List.length_cons]
    show 9 + _ = _
    omega
theorem abT_snoc (l : List Nat) (u : Nat) : abT (l ++ [u]) = abT l ++ abTx u := by
  unfold abT
  rw [List.flatMap_append]
  simp
theorem txA_len {v : Ev} {n u : Nat} (hn : n ≤ 5) (hu : u ≤ 5) : (txA v n u).length ≤ 162 := by
  obtain ⟨ok, hl⟩ := okAll hn
  have h1 := (LI.e9 (v := v) hn ok).2.2
  have h2 := asc_le (aFv v) u
  unfold txA
  rw [List.length_append, List.length_append, edT_len, abT_len]
  show 7 + _ + _ ≤ _
  omega
abbrev lwU (v : Ev) (x n sb u : Nat) (b c w : Option Value) : List (Option Value) := [some (.ref (oA v 98)), some (.ref x), some (.ref (x + 96)), some (.int (nI n)), some (.ref sb), some (.int (nI u)), b, c, w]
theorem law_absb {v : Ev} {x n sb : Nat} {b c w : Option Value} (hN : scN v ≤ 260) (hn : 2 ≤ n ∧ n ≤ 5)
    (kk : ∀ (h : Hp) (top : Nat) (cells slots : Nat), LA v h top x n sb n → cells ≤ 500 → slots ≤ 70000 → J v mL_law room_1 (lwK v) (z0 v) cells slots h top 439 (lwU v x n sb n b c w) []) :
    ∀ m u, u + m = n → ∀ (h : Hp) (top : Nat) (cells slots : Nat), LA v h top x n sb u → cells ≤ 400 + 3 * u → slots ≤ 60000 + 1200 * u → J v mL_law room_1 (lwK v) (z0 v) cells slots h top 377 (lwU v x n sb u b c w) [] := by
  intro m
  induction m with
  | zero =>
    intro u hu h top cells slots I hc hs
    have hu : u = n := by omega
    subst hu
    refine r_iload (pc := 377) (i := 5) (tL_law.at 209 rfl) rfl ?_
    refine r_iload_n (pc := 379) (i := 3) (tL_law.at 210 rfl) rfl rfl ?_
    refine r_icmp_geN (pc := 380) 439 (tL_law.at 211 rfl) (by decide) (by omega) (by omega) (fun _ => ?_) (fun c => by omega)
    exact kk h top cells slots I (by omega) (by omega)
  | succ m ih =>
    intro u hu h top cells slots I hc hs
    have hun : u < n := by omega
    obtain ⟨K, L, B, ht⟩ := I
    have lT := txA_len (v := v) (n := n) (u := u) hn.2 (by omega)
    refine r_iload (pc := 377) (i := 5) (tL_law.at 209 rfl) rfl ?_
    refine r_iload_n (pc := 379) (i := 3) (tL_law.at 210 rfl) rfl rfl ?_
    refine r_icmp_geN (pc := 380) 439 (tL_law.at 211 rfl) (by decide) (by omega) (by omega) (fun c => by omega) (fun _ => ?_)
    refine r_aload_n (pc := 383) (i := 0) (tL_law.at 212 rfl) rfl rfl ?_
    refine r_bipush (pc := 384) (w := nI 11) (tL_law.at 213 rfl) (by decide) ?_
    refine r_callS (M' := mL_cell) (pc := 386) (tL_law.at 214 rfl) ml_L_105 rfl mw_L_cell ⟨by decide, by decide⟩ (c_lCell hN (by omega)) rfl rfl (Nat.le_of_ble_eq_true rfl) (by show _ ≤ 600086; omega) (by show _ ≤ 7301441; omega) ?_
    rintro _ _ _ ⟨rfl, rfl, rfl⟩
    refine r_iconst (pc := 389) (w := nI 2) (tL_law.at 215 rfl) (by decide) ?_
    refine r_iload (pc := 390) (i := 5) (tL_law.at 216 rfl) rfl ?_
    first | refine r_imulN (pc := 392) (tL_law.at 217 rfl) ?_ | refine r_imul (pc := 392) (tL_law.at 217 rfl) ?_
    refine r_ishr (pc := 393) (tL_law.at 218 rfl) ?_
    refine r_iconst (pc := 394) (w := nI 3) (tL_law.at 219 rfl) (by decide) ?_
    refine r_iand (pc := 395) (tL_law.at 220 rfl) ?_
    have back : ∀ (h' : Hp) (top' : Nat) (ce sl : Nat), LA v h' top' x n sb (u + 1) → ce ≤ cells + 3 → sl ≤ slots + 1200 → J v mL_law room_1 (lwK v) (z0 v) ce sl h' top' 433 (lwU v x n sb u b c w) [] := by
      intro h' top' ce sl I' hce hsl
      first | refine r_iincN (pc := 433) (tL_law.at 239 rfl) rfl (by decide) ?_ | refine r_iinc (pc := 433) (tL_law.at 239 rfl) rfl rfl (by decide) ?_
      refine r_goto (pc := 436) 377 (tL_law.at 240 rfl) (by decide) ?_
      refine r_ls (lwU v x n sb (u + 1) b c w) rfl ?_
      have q1 : ce ≤ 400 + 3 * (u + 1) := by omega
      have q2 : sl ≤ 60000 + 1200 * (u + 1) := Nat.le_trans hsl (by rw [Nat.mul_succ, ← Nat.add_assoc]; exact Nat.add_le_add_right hs 1200)
      exact ih (u + 1) (by omega) h' top' ce sl I' q1 q2
    by_cases h3 : (scF v 11 >>> (nI (2 * u) &&& 31)) &&& nI 3 = 0
    · have ef : aFv v u = true := decide_eq_true h3
      refine r_if_eq (pc := 396) 402 (tL_law.at 221 rfl) (by decide) (fun _ => ?_) (fun z => absurd h3 z)
      refine r_aload_n (pc := 402) (i := 2) (tL_law.at 223 rfl) rfl rfl ?_
      refine r_dup (pc := 403) (tL_law.at 224 rfl) rfl ?_
      refine r_get (pc := 404) (tL_law.at 225 rfl) gf_L_71 (L.1) rfl ?_
      refine r_iconst (pc := 407) (w := nI 1) (tL_law.at 226 rfl) (by decide) ?_
      refine r_iload (pc := 408) (i := 5) (tL_law.at 227 rfl) rfl ?_
      refine r_ishl (pc := 410) (tL_law.at 228 rfl) ?_
      rw [bs_one u (by omega)]
      refine r_ior (pc := 411) (tL_law.at 229 rfl) ?_
      refine r_eq rfl (st2 := [.int (nI (aMk v u) ||| nI (2 ^ u)), .ref (x + 96)]) rfl ?_
      rw [bs_or _ (aMk_lt v u (by omega)) _ (p2_64 (by omega))]
      refine r_put (pc := 412) (tL_law.at 230 rfl) pf_L_71 L.1 (Nat.le_of_ble_eq_true rfl) rfl rfl ?_
      have L1 := L.pH n (LSt n (pWv v) (allP n n)).e (aMk v u ||| 2 ^ u)
      refine r_eq (h2 := hp h (x + 96) (ltE (x + 96) ((lwS v n u).sH n (LSt n (pWv v) (allP n n)).e (aMk v u ||| 2 ^ u)))) rfl rfl ?_
      have f1 : ∀ q, (q < x + 96 ∨ x + 114 ≤ q) → hp h (x + 96) (ltE (x + 96) ((lwS v n u).sH n (LSt n (pWv v) (allP n n)).e (aMk v u ||| 2 ^ u))) q = h q := fun q hq => hp_ne _ _ (by omega)
      generalize hp h (x + 96) (ltE (x + 96) ((lwS v n u).sH n (LSt n (pWv v) (allP n n)).e (aMk v u ||| 2 ^ u))) = h1 at L1 f1 ⊢
      have K1 : okX v h1 x (Z0 v) := K.frame fun q q1 q2 => f1 q (by omega)
      have B1 := B.up (fun q hq => f1 q (by omega))
      obtain ⟨_, g1⟩ := B1.cell
      refine r_aload (pc := 415) (i := 4) (tL_law.at 231 rfl) rfl ?_
      refine r_ldcS 12 (pc := 417) (tL_law.at 232 rfl) rfl ?_
      refine r_callV (M' := mJ4_append_15ec4) (pc := 419) (tL_law.at 233 rfl) ml_L_118 rfl mw_J4_append_15ec4 ⟨by decide, by decide⟩ (g1) rfl rfl (c_appS B1 (loS_lit (i := 12) (by decide +kernel) (by decide +kernel)) okAb (by show _ + 7 ≤ 200; omega) ht) rfl rfl (Nat.le_of_ble_eq_true rfl) (by show _ ≤ 600086; omega) (by show _ ≤ 7301441; omega) ?_
      rintro _ h2 t2 ⟨rfl, u2, B2, f2⟩
      obtain ⟨_, g2⟩ := B2.cell
      have l2 : (txA v n u ++ [97, 98, 115, 111, 114, 98, 32]).length = (txA v n u).length + 7 := by rw [List.length_append]; rfl
      refine r_iload (pc := 422) (i := 5) (tL_law.at 234 rfl) rfl ?_
      refine r_callV (M' := mJ4_append_bf812) (pc := 424) (tL_law.at 235 rfl) ml_L_121 rfl mw_J4_append_bf812 ⟨by decide, by decide⟩ (g2) rfl rfl (c_appI B2 (show u < 10 by omega) (by omega) (by omega)) rfl rfl (Nat.le_of_ble_eq_true rfl) (by show _ ≤ 600086; omega) (by show _ ≤ 7301441; omega) ?_
      rintro _ h3' t3 ⟨rfl, u3, B3, f3⟩
      obtain ⟨_, g3⟩ := B3.cell
      have l3 : (txA v n u ++ [97, 98, 115, 111, 114, 98, 32] ++ [48 + u]).length = (txA v n u).length + 8 := by rw [List.length_append, l2]; rfl
      refine r_bipush (pc := 427) (w := nI 59) (tL_law.at 236 rfl) (by decide) ?_
      refine r_callV (M' := mJ4_append_cf468) (pc := 429) (tL_law.at 237 rfl) ml_L_143 rfl mw_J4_append_cf468 ⟨by decide, by decide⟩ (g3) rfl rfl (c_appC (c := 59) B3 (by omega) (by omega) (by omega)) rfl rfl (Nat.le_of_ble_eq_true rfl) (by show _ ≤ 600086; omega) (by show _ ≤ 7301441; omega) ?_
      rintro _ h4 t4 ⟨rfl, u4, B4, f4⟩
      refine r_pop (pc := 432) (tL_law.at 238 rfl) rfl ?_
      have ff : ∀ q, q < x + 114 → h4 q = h1 q := fun q hq => (f4 q hq).trans ((f3 q hq).trans (f2 q hq))
      have eM : aMk v (u + 1) = aMk v u ||| 2 ^ u := by rw [aMk, if_pos ef]
      have eT : txA v n (u + 1) = txA v n u ++ [97, 98, 115, 111, 114, 98, 32] ++ [48 + u] ++ [59] := by
        unfold txA
        rw [ascL, if_pos ef, abT_snoc]
        unfold abTx
        simp
      refine back h4 t4 _ _ ⟨K1.frame fun q q1 q2 => ff q (by omega), ?_, by rw [eT]; exact B4, by omega⟩ (by omega) (by omega)
      have e5 : lwS v n (u + 1) = (lwS v n u).sH n (LSt n (pWv v) (allP n n)).e (aMk v u ||| 2 ^ u) := by
        unfold lwS
        rw [eM]
        rfl
      rw [e5]
      exact L1.agr fun q q1 q2 => ff q (by omega)
    · have ef : aFv v u = false := decide_eq_false h3
      refine r_if_eq (pc := 396) 402 (tL_law.at 221 rfl) (by decide) (fun z => absurd z h3) (fun _ => ?_)
      refine r_goto (pc := 399) 433 (tL_law.at 222 rfl) (by decide) ?_
      refine back h top _ _ ⟨K, ?_, ?_, ht⟩ (by omega) (by omega)
      · unfold lwS
        rw [aMk, ef, if_neg (by decide)]
        exact L
      · unfold txA
        rw [ascL, ef, if_neg (by decide)]
        exact B

