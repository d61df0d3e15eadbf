/-! ===== Equations ===== -/
section
variable {v : Ev} {M : Md} {R : Room} {K : List Frame → Array Value → State → State → Prop} {t0 cells slots : Nat} {h : Hp} {top pc : Nat} {ls : List (Option Value)} {st : List Value}
theorem r_inegN {a : Nat} (d : decode M.2.1 pc = .ok (.ineg, 1)) (k : J v M R K t0 cells slots h top (pc + 1) ls (.int (zI (-(a : Int))) :: st)) : J v M R K t0 cells slots h top pc ls (.int (nI a) :: st) := r_ineg d (by rw [← zI_nat, zI_neg]; exact k)
end
def lF (C : Nat → Int) : Nat → Int64 := fun p => lI (C p)
theorem upd_lF (C : Nat → Int) (i : Nat) (x : Int) : vp_updL (lF C) i (lI x) = lF (upZ C i x) := by
  funext k
  unfold vp_updL lF upZ
  split <;> rfl
def eqE (q k : Nat) : va_E := ob 1 [.ref (q + 1), .ref (q + 2), .ref (q + 3), .int (nI k)]
def eC (v : Ev) (q : Nat) (C : Nat → Int) (U : Nat → Nat) (k : Nat) : Nat → va_E
  | 0 => eqE q k
  | 1 => aJ v 42 (lF C)
  | 2 => aI v 6 (iF U)
  | _ => aJ v 6 (lF (fun _ => 0))
def eH (v : Ev) (h : Hp) (q : Nat) (C : Nat → Int) (U : Nat → Nat) (k : Nat) : Hp := fun a => if q ≤ a ∧ a < q + 4 then some (eC v q C U k (a - q)) else h a
section
variable {v : Ev} {h : Hp} {q : Nat} {C : Nat → Int} {U : Nat → Nat} {k : Nat}
theorem eH_0 : eH v h q C U k q = some (eqE q k) := by unfold eH; rw [if_pos (by omega), Nat.sub_self]; rfl
theorem eH_1 : eH v h q C U k (q + 1) = some (aJ v 42 (lF C)) := by unfold eH; rw [if_pos (by omega), show q + 1 - q = 1 by omega]; rfl
theorem eH_2 : eH v h q C U k (q + 2) = some (aI v 6 (iF U)) := by unfold eH; rw [if_pos (by omega), show q + 2 - q = 2 by omega]; rfl
theorem eH_3 : eH v h q C U k (q + 3) = some (aJ v 6 (lF (fun _ => 0))) := by unfold eH; rw [if_pos (by omega), show q + 3 - q = 3 by omega]; rfl
theorem eH_out {a : Nat} (ha : a < q ∨ q + 4 ≤ a) : eH v h q C U k a = h a := if_neg (by omega)
theorem eH_G {g : Nat} {G : GT} (hg : isG v h g G) (hd : g + 6 ≤ q ∨ q + 4 ≤ g) : isG v (eH v h q C U k) g G := hg.frame (fun a _ _ => eH_out (by omega))
theorem eH_ext {h' : Hp} (h0 : h' q = some (eqE q k)) (h1 : h' (q + 1) = some (aJ v 42 (lF C))) (h2 : h' (q + 2) = some (aI v 6 (iF U))) (h3 : h' (q + 3) = some (aJ v 6 (lF (fun _ => 0)))) (ho : ∀ a, (a < q ∨ q + 4 ≤ a) → h' a = h a) : h' = eH v h q C U k := by
  funext a
  by_cases ha : q ≤ a ∧ a < q + 4
  · rcases (show a = q ∨ a = q + 1 ∨ a = q + 2 ∨ a = q + 3 by omega) with e | e | e | e
    · rw [e, h0, eH_0]
    · rw [e, h1, eH_1]
    · rw [e, h2, eH_2]
    · rw [e, h3, eH_3]
  · rw [ho a (by omega), eH_out (by omega)]
theorem eH_p0 (k2 : Nat) : hp (eH v h q C U k) q (eqE q k2) = eH v h q C U k2 :=
  eH_ext (hp_eq _ _ _) ((hp_ne _ _ (by omega)).trans eH_1) ((hp_ne _ _ (by omega)).trans eH_2) ((hp_ne _ _ (by omega)).trans eH_3) (fun a ha => (hp_ne _ _ (by omega)).trans (eH_out ha))
theorem eH_p1 (C2 : Nat → Int) : hp (eH v h q C U k) (q + 1) (aJ v 42 (lF C2)) = eH v h q C2 U k :=
  eH_ext ((hp_ne _ _ (by omega)).trans eH_0) (hp_eq _ _ _) ((hp_ne _ _ (by omega)).trans eH_2) ((hp_ne _ _ (by omega)).trans eH_3) (fun a ha => (hp_ne _ _ (by omega)).trans (eH_out ha))
theorem eH_p2 (U2 : Nat → Nat) : hp (eH v h q C U k) (q + 2) (aI v 6 (iF U2)) = eH v h q C U2 k :=
  eH_ext ((hp_ne _ _ (by omega)).trans eH_0) ((hp_ne _ _ (by omega)).trans eH_1) (hp_eq _ _ _) ((hp_ne _ _ (by omega)).trans eH_3) (fun a ha => (hp_ne _ _ (by omega)).trans (eH_out ha))
theorem eH_put {a : Nat} {e : va_E} (ha : a < q ∨ q + 4 ≤ a) : hp (eH v h q C U k) a e = eH v (hp h a e) q C U k :=
  eH_ext ((hp_ne _ _ (by omega)).trans eH_0) ((hp_ne _ _ (by omega)).trans eH_1) ((hp_ne _ _ (by omega)).trans eH_2) ((hp_ne _ _ (by omega)).trans eH_3) (fun b hb => by
    by_cases e : b = a
    · rw [e, hp_eq, hp_eq]
    · rw [hp_ne _ _ e, hp_ne _ _ e, eH_out hb])
theorem eH_eH {C2 : Nat → Int} {U2 : Nat → Nat} {k2 : Nat} : eH v (eH v h q C U k) q C2 U2 k2 = eH v h q C2 U2 k2 := by
  refine eH_ext eH_0 eH_1 eH_2 eH_3 (fun a ha => ?_)
  rw [eH_out ha, eH_out ha]
end
theorem c_cell {v : Ev} {h : Hp} {top q k i j : Nat} {C : Nat → Int} {U : Nat → Nat} (hi : i * 7 + j < 42) : Cal v mX1_cell 1 0 0 [.ref q, .int (nI i), .int (nI j)] (eH v h q C U k) top (pR (.long (lI (C (i * 7 + j)))) (eH v h q C U k) top) noX := by
  refine Cal.ofJ (by decide +kernel) rfl (Nat.le_of_ble_eq_true rfl) fun hz0 => ?_
  refine r_ls [some (.ref q), some (.int (nI i)), some (.int (nI j))] rfl ?_
  refine r_aload_n (pc := 0) (i := 0) (tX1_cell.at 0 rfl) rfl rfl ?_
  refine r_get (pc := 1) (tX1_cell.at 1 rfl) gf_X1_11 (eH_0) rfl ?_
  refine r_iload_n (pc := 4) (i := 1) (tX1_cell.at 2 rfl) rfl rfl ?_
  refine r_bipush (pc := 5) (w := nI 7) (tX1_cell.at 3 rfl) (by decide) ?_
  first | refine r_imulN (pc := 7) (tX1_cell.at 4 rfl) ?_ | refine r_imul (pc := 7) (tX1_cell.at 4 rfl) ?_
  refine r_iload_n (pc := 8) (i := 2) (tX1_cell.at 5 rfl) rfl rfl ?_
  first | refine r_iaddN (pc := 9) (tX1_cell.at 6 rfl) ?_ | refine r_iadd (pc := 9) (tX1_cell.at 6 rfl) ?_
  refine r_lald (pc := 10) (tX1_cell.at 7 rfl) (eH_1) (i * 7 + j) (rfl) (by omega) (Nat.le_of_ble_eq_true rfl) ?_
  refine r_lret (pc := 11) (tX1_cell.at 8 rfl) rfl (Nat.le_of_ble_eq_true rfl) (Nat.le_of_ble_eq_true rfl) ?_
  exact ⟨rfl, rfl, rfl⟩
theorem c_putCell {v : Ev} {h : Hp} {top q k i j : Nat} {x : Int} {C : Nat → Int} {U : Nat → Nat} (hi : i * 7 + j < 42) : Cal v mX1_putCell 1 0 0 [.ref q, .int (nI i), .int (nI j), .long (lI x)] (eH v h q C U k) top (pV (eH v h q (upZ C (i * 7 + j) x) U k) top) noX := by
  refine Cal.ofJ (by decide +kernel) rfl (Nat.le_of_ble_eq_true rfl) fun hz0 => ?_
  refine r_ls [some (.ref q), some (.int (nI i)), some (.int (nI j)), some (.long (lI x)), none] rfl ?_
  refine r_aload_n (pc := 0) (i := 0) (tX1_putCell.at 0 rfl) rfl rfl ?_
  refine r_get (pc := 1) (tX1_putCell.at 1 rfl) gf_X1_11 (eH_0) rfl ?_
  refine r_iload_n (pc := 4) (i := 1) (tX1_putCell.at 2 rfl) rfl rfl ?_
  refine r_bipush (pc := 5) (w := nI 7) (tX1_putCell.at 3 rfl) (by decide) ?_
  first | refine r_imulN (pc := 7) (tX1_putCell.at 4 rfl) ?_ | refine r_imul (pc := 7) (tX1_putCell.at 4 rfl) ?_
  refine r_iload_n (pc := 8) (i := 2) (tX1_putCell.at 5 rfl) rfl rfl ?_
  first | refine r_iaddN (pc := 9) (tX1_putCell.at 6 rfl) ?_ | refine r_iadd (pc := 9) (tX1_putCell.at 6 rfl) ?_
  refine r_lload_n (pc := 10) (i := 3) (tX1_putCell.at 7 rfl) rfl rfl ?_
  refine r_last (pc := 11) (tX1_putCell.at 8 rfl) (eH_1) (i * 7 + j) (rfl) (by omega) (Nat.le_of_ble_eq_true rfl) ?_
  rw [upd_lF, eH_p1]
  refine r_vret (pc := 12) (tX1_putCell.at 9 rfl) rfl (Nat.le_of_ble_eq_true rfl) (Nat.le_of_ble_eq_true rfl) ?_
  exact ⟨rfl, rfl, rfl⟩
/-- the unknown vertices in their order, without the wanted one -/
def ordL (S w : Nat) : Nat → List Nat
  | 0 => []
  | u + 1 => if u ≠ w ∧ S.testBit u then ordL S w u ++ [u] else ordL S w u
theorem ordL_len (S w : Nat) : ∀ n, (ordL S w n).length + (if w < n then 1 else 0) ≤ n
  | 0 => by simp [ordL]
  | n + 1 => by
    have ih := ordL_len S w n
    rw [ordL]
    by_cases h : n = w
    · rw [if_neg (by omega), if_pos (by omega)]
      rw [if_neg (by omega)] at ih
      omega
    · split
      · rw [List.length_append]
        split at ih
        · rw [if_pos (by omega)]; simp; omega
        · rw [if_neg (by omega)]; simp; omega
      · split at ih
        · rw [if_pos (by omega)]; omega
        · rw [if_neg (by omega)]; omega
theorem ordL_lt (S w : Nat) : ∀ n, ∀ x ∈ ordL S w n, x < n
  | 0, x, hx => by simp [ordL] at hx
  | n + 1, x, hx => by
    rw [ordL] at hx
    split at hx
    · rcases List.mem_append.mp hx with h | h
      · have := ordL_lt S w n x h
        omega
      · rw [List.mem_singleton.mp h]
        omega
    · have := ordL_lt S w n x hx
      omega
def isL (U : Nat → Nat) (l : List Nat) : Prop := ∀ i, i < l.length → U i = l.getD i 0
theorem isL.push {U : Nat → Nat} {l : List Nat} (hu : isL U l) (x : Nat) : isL (upN U l.length x) (l ++ [x]) := by
  intro i hi
  rw [List.length_append, List.length_singleton] at hi
  by_cases e : i = l.length
  · rw [e, upN_eq]
    simp
  · rw [upN_ne _ _ e, hu i (by omega)]
    simp [List.getD, List.getElem?_append_left (show i < l.length by omega)]
def unkL (S w n : Nat) : List Nat := ordL S w n ++ [w]
theorem unkL_len {S w n : Nat} (hw : w < n) : (unkL S w n).length ≤ n ∧ 1 ≤ (unkL S w n).length := by
  have h := ordL_len S w n
  rw [if_pos hw] at h
  unfold unkL
  rw [List.length_append, List.length_singleton]
  omega
theorem unkL_lt {S w n : Nat} (hw : w < n) (i : Nat) : (unkL S w n).getD i 0 < n := by
  rw [List.getD_eq_getElem?_getD]
  cases hh : (unkL S w n)[i]? with
  | none => simp; omega
  | some x =>
    have hm := List.mem_of_getElem? hh
    unfold unkL at hm
    rcases List.mem_append.mp hm with h | h
    · exact ordL_lt S w n x h
    · rw [List.mem_singleton.mp h]
      exact hw
def aug (W : Nat → Nat) (n : Nat) (g : Nat → Int) (l : List Nat) (i j : Nat) : Int :=
  if j = l.length then g (l.getD i 0) else if i = j then (degN W (l.getD i 0) n : Nat) else -(W (l.getD i 0 * 6 + l.getD j 0) : Nat)
theorem w7 {i j i2 j2 : Nat} (h1 : j < 7) (h2 : j2 < 7) : i * 7 + j = i2 * 7 + j2 ↔ i = i2 ∧ j = j2 := by omega
theorem c_build {v : Ev} {h : Hp} {top q g ga S w k : Nat} {G : GT} {C Gn : Nat → Int} {U : Nat → Nat} (hg : isG v h g G) (hd : g + 6 ≤ q ∨ q + 4 ≤ g) (hga : ∀ C U k, eH v h q C U k ga = some (aJ v 6 (lF Gn))) (hn : G.n ≤ 6) (hS : S < 64) (hw : w < G.n) (hW : ∀ k, k < 36 → G.W k ≤ 1000000) :
    Cal v mX1_build 3 0 0 [.ref q, .ref g, .int (nI S), .int (nI w), .ref ga] (eH v h q C U k) top (fun r h' top' => r = none ∧ top = top' ∧ ∃ C' U', h' = eH v h q C' U' (unkL S w G.n).length ∧ ∀ i j, i < (unkL S w G.n).length → j ≤ (unkL S w G.n).length → C' (i * 7 + j) = aug G.W G.n Gn (unkL S w G.n) i j) noX := by
  have gG : ∀ C U k, isG v (eH v h q C U k) g G := fun C U k => eH_G hg hd
  have hl := unkL_len (S := S) hw
  have hlt := fun i => unkL_lt (S := S) hw i
  refine Cal.ofJ (by decide +kernel) rfl (Nat.le_of_ble_eq_true rfl) fun hz0 => ?_
  refine r_ls [some (.ref q), some (.ref g), some (.int (nI S)), some (.int (nI w)), some (.ref ga), none, none, none] rfl ?_
  refine r_aload_n (pc := 0) (i := 0) (tX1_build.at 0 rfl) rfl rfl ?_
  refine r_iconst (pc := 1) (w := nI 0) (tX1_build.at 1 rfl) (by decide) ?_
  refine r_put (pc := 2) (tX1_build.at 2 rfl) pf_X1_22 (eH_0) (Nat.le_of_ble_eq_true rfl) (rfl) (rfl) ?_
  refine r_eq (h2 := eH v h q C U 0) (eH_p0 _) rfl ?_
  refine r_iconst (pc := 5) (w := nI 0) (tX1_build.at 3 rfl) (by decide) ?_
  refine r_istore (pc := 6) (i := 5) (tX1_build.at 4 rfl) (by decide) ?_
  generalize hPost : (fun (r : Option Value) (h' : Hp) (top' : Nat) => r = none ∧ top = top' ∧ ∃ C' U', h' = eH v h q C' U' (unkL S w G.n).length ∧ ∀ i j, i < (unkL S w G.n).length → j ≤ (unkL S w G.n).length → C' (i * 7 + j) = aug G.W G.n Gn (unkL S w G.n) i j) = Po
  have key3 : ∀ i U, i < (unkL S w G.n).length → isL U (unkL S w G.n) → (∀ C o6 o7, (∀ r c, r < i + 1 → c ≤ (unkL S w G.n).length → C (r * 7 + c) = aug G.W G.n Gn (unkL S w G.n) r c) → J v mX1_build (rmOf 3 0 0) (KM v Po noX 0 0) top 0 0 (eH v h q C U (unkL S w G.n).length) top 91 [some (.ref q), some (.ref g), some (.int (nI S)), some (.int (nI w)), some (.ref ga), some (.int (nI (i + 1))), o6, o7] []) →
      ∀ m j C, j + m = (unkL S w G.n).length → (∀ r c, r < i → c ≤ (unkL S w G.n).length → C (r * 7 + c) = aug G.W G.n Gn (unkL S w G.n) r c) → (∀ c, c < j → C (i * 7 + c) = aug G.W G.n Gn (unkL S w G.n) i c) → J v mX1_build (rmOf 3 0 0) (KM v Po noX 0 0) top 0 0 (eH v h q C U (unkL S w G.n).length) top 112 [some (.ref q), some (.ref g), some (.int (nI S)), some (.int (nI w)), some (.ref ga), some (.int (nI i)), some (.int (nI ((unkL S w G.n).getD i 0))), some (.int (nI j))] [] := by
    intro i U hi hU nx m
    have hli := hlt i
    induction m with
    | zero =>
      intro j C hj hr hc
      have hj : j = (unkL S w G.n).length := by omega
      refine r_iload (pc := 112) (i := 7) (tX1_build.at 61 rfl) rfl ?_
      refine r_aload_n (pc := 114) (i := 0) (tX1_build.at 62 rfl) rfl rfl ?_
      refine r_get (pc := 115) (tX1_build.at 63 rfl) gf_X1_22 (eH_0) rfl ?_
      refine r_icmp_geN (pc := 118) 167 (tX1_build.at 64 rfl) (by decide) (by omega) (by omega) (fun _ => ?_) (fun c => by omega)
      refine r_aload_n (pc := 167) (i := 0) (tX1_build.at 88 rfl) rfl rfl ?_
      refine r_iload (pc := 168) (i := 5) (tX1_build.at 89 rfl) rfl ?_
      refine r_aload_n (pc := 170) (i := 0) (tX1_build.at 90 rfl) rfl rfl ?_
      refine r_get (pc := 171) (tX1_build.at 91 rfl) gf_X1_22 (eH_0) rfl ?_
      refine r_aload (pc := 174) (i := 4) (tX1_build.at 92 rfl) rfl ?_
      refine r_iload (pc := 176) (i := 6) (tX1_build.at 93 rfl) rfl ?_
      refine r_lald (pc := 178) (tX1_build.at 94 rfl) (hga _ _ _) ((unkL S w G.n).getD i 0) (rfl) (by omega) (Nat.le_of_ble_eq_true rfl) ?_
      refine r_callV (M' := mX1_putCell) (pc := 179) (tX1_build.at 95 rfl) ml_X1_64 rfl mw_X1_putCell ⟨by decide, by decide⟩ (eH_0) rfl rfl (c_putCell (x := Gn ((unkL S w G.n).getD i 0)) (by omega)) rfl rfl (Nat.le_of_ble_eq_true rfl) (Nat.le_of_ble_eq_true rfl) (Nat.le_of_ble_eq_true rfl) ?_
      rintro _ _ _ ⟨rfl, rfl, rfl⟩
      first | refine r_iincN (pc := 182) (tX1_build.at 96 rfl) rfl (by decide) ?_ | refine r_iinc (pc := 182) (tX1_build.at 96 rfl) rfl rfl (by decide) ?_
      refine r_goto (pc := 185) 91 (tX1_build.at 97 rfl) (by decide) ?_
      refine nx _ _ _ (fun r c h1 h2 => ?_)
      by_cases h3 : r = i
      · subst h3
        by_cases h4 : c = (unkL S w G.n).length
        · rw [h4, upZ_eq, aug, if_pos rfl]
        · rw [upZ_ne _ _ (by rw [ne_eq, w7 (by omega) (by omega)]; omega)]
          exact hc c (by omega)
      · rw [upZ_ne _ _ (by rw [ne_eq, w7 (by omega) (by omega)]; omega)]
        exact hr r c (by omega) h2
    | succ m ih =>
      intro j C hj hr hc
      have hlj := hlt j
      have hwb := hW ((unkL S w G.n).getD i 0 * 6 + (unkL S w G.n).getD j 0) (by omega)
      have hdg : degN G.W ((unkL S w G.n).getD i 0) G.n ≤ G.n * 1000000 := sN_le G.n (fun k hk => hW _ (by omega))
      have fin : ∀ x, x = aug G.W G.n Gn (unkL S w G.n) i j → (∀ r c, r < i → c ≤ (unkL S w G.n).length → upZ C (i * 7 + j) x (r * 7 + c) = aug G.W G.n Gn (unkL S w G.n) r c) ∧ (∀ c, c < j + 1 → upZ C (i * 7 + j) x (i * 7 + c) = aug G.W G.n Gn (unkL S w G.n) i c) := by
        intro x hx
        refine ⟨fun r c h1 h2 => ?_, fun c h1 => ?_⟩
        · rw [upZ_ne _ _ (by rw [ne_eq, w7 (by omega) (by omega)]; omega)]
          exact hr r c h1 h2
        · by_cases h3 : c = j
          · rw [h3, upZ_eq, hx]
          · rw [upZ_ne _ _ (by rw [ne_eq, w7 (by omega) (by omega)]; omega)]
            exact hc c (by omega)
      refine r_iload (pc := 112) (i := 7) (tX1_build.at 61 rfl) rfl ?_
      refine r_aload_n (pc := 114) (i := 0) (tX1_build.at 62 rfl) rfl rfl ?_
      refine r_get (pc := 115) (tX1_build.at 63 rfl) gf_X1_22 (eH_0) rfl ?_
      refine r_icmp_geN (pc := 118) 167 (tX1_build.at 64 rfl) (by decide) (by omega) (by omega) (fun c => by omega) (fun _ => ?_)
      refine r_aload_n (pc := 121) (i := 0) (tX1_build.at 65 rfl) rfl rfl ?_
      refine r_iload (pc := 122) (i := 5) (tX1_build.at 66 rfl) rfl ?_
      refine r_iload (pc := 124) (i := 7) (tX1_build.at 67 rfl) rfl ?_
      refine r_iload (pc := 126) (i := 5) (tX1_build.at 68 rfl) rfl ?_
      refine r_iload (pc := 128) (i := 7) (tX1_build.at 69 rfl) rfl ?_
      refine r_icmp_neN (pc := 130) 143 (tX1_build.at 70 rfl) (by decide) (by omega) (by omega) (fun c1 => ?_) (fun c1 => ?_)
      · refine r_aload_n (pc := 143) (i := 1) (tX1_build.at 76 rfl) rfl rfl ?_
        refine r_iload (pc := 144) (i := 6) (tX1_build.at 77 rfl) rfl ?_
        refine r_aload_n (pc := 146) (i := 0) (tX1_build.at 78 rfl) rfl rfl ?_
        refine r_get (pc := 147) (tX1_build.at 79 rfl) gf_X1_15 (eH_0) rfl ?_
        refine r_iload (pc := 150) (i := 7) (tX1_build.at 80 rfl) rfl ?_
        refine r_iald (pc := 152) (tX1_build.at 81 rfl) (eH_2) (j) (rfl) (by omega) (Nat.le_of_ble_eq_true rfl) ?_
        rw [show iF U j = nI ((unkL S w G.n).getD j 0) by rw [← hU j (by omega)]; rfl]
        refine r_callV (M' := mX3_weightBetween) (pc := 153) (tX1_build.at 82 rfl) ml_X1_60 rfl mw_X3_weightBetween ⟨by decide, by decide⟩ ((gG _ _ _).1) rfl rfl (c_wb (gG _ _ _) (by omega)) rfl rfl (Nat.le_of_ble_eq_true rfl) (Nat.le_of_ble_eq_true rfl) (Nat.le_of_ble_eq_true rfl) ?_
        rintro _ _ _ ⟨rfl, rfl, rfl⟩
        first | refine r_inegN (pc := 156) (tX1_build.at 83 rfl) ?_ | refine r_inegZ (pc := 156) (tX1_build.at 83 rfl) ?_ | refine r_ineg (pc := 156) (tX1_build.at 83 rfl) ?_
        first | refine r_i2lN (pc := 157) (tX1_build.at 84 rfl) (by omega) ?_ | refine r_i2lZ (pc := 157) (tX1_build.at 84 rfl) ⟨by omega, by omega⟩ ?_ | refine r_i2l (pc := 157) (tX1_build.at 84 rfl) ?_
        obtain ⟨f1, f2⟩ := fin (-((G.W ((unkL S w G.n).getD i 0 * 6 + (unkL S w G.n).getD j 0) : Nat) : Int)) (by rw [aug, if_neg (by omega), if_neg c1])
        refine r_callV (M' := mX1_putCell) (pc := 158) (tX1_build.at 85 rfl) ml_X1_64 rfl mw_X1_putCell ⟨by decide, by decide⟩ (eH_0) rfl rfl (c_putCell (i := i) (j := j) (by omega)) rfl rfl (Nat.le_of_ble_eq_true rfl) (Nat.le_of_ble_eq_true rfl) (Nat.le_of_ble_eq_true rfl) ?_
        rintro _ _ _ ⟨rfl, rfl, rfl⟩
        first | refine r_iincN (pc := 161) (tX1_build.at 86 rfl) rfl (by decide) ?_ | refine r_iinc (pc := 161) (tX1_build.at 86 rfl) rfl rfl (by decide) ?_
        refine r_goto (pc := 164) 112 (tX1_build.at 87 rfl) (by decide) ?_
        exact ih (j + 1) _ (by omega) f1 f2
      · subst c1
        obtain ⟨f1, f2⟩ := fin ((degN G.W ((unkL S w G.n).getD i 0) G.n : Nat) : Int) (by rw [aug, if_neg (by omega), if_pos rfl])
        refine r_aload_n (pc := 133) (i := 1) (tX1_build.at 71 rfl) rfl rfl ?_
        refine r_iload (pc := 134) (i := 6) (tX1_build.at 72 rfl) rfl ?_
        refine r_callV (M' := mX3_sumOfWeights) (pc := 136) (tX1_build.at 73 rfl) ml_X1_57 rfl mw_X3_sumOfWeights ⟨by decide, by decide⟩ ((gG _ _ _).1) rfl rfl (c_sow (gG _ _ _) hn (by omega)) rfl rfl (Nat.le_of_ble_eq_true rfl) (Nat.le_of_ble_eq_true rfl) (Nat.le_of_ble_eq_true rfl) ?_
        rintro _ _ _ ⟨rfl, rfl, rfl⟩
        first | refine r_i2lN (pc := 139) (tX1_build.at 74 rfl) (by omega) ?_ | refine r_i2l (pc := 139) (tX1_build.at 74 rfl) ?_
        refine r_goto (pc := 140) 158 (tX1_build.at 75 rfl) (by decide) ?_
        refine r_callV (M' := mX1_putCell) (pc := 158) (tX1_build.at 85 rfl) ml_X1_64 rfl mw_X1_putCell ⟨by decide, by decide⟩ (eH_0) rfl rfl (c_putCell (i := i) (j := i) (by omega)) rfl rfl (Nat.le_of_ble_eq_true rfl) (Nat.le_of_ble_eq_true rfl) (Nat.le_of_ble_eq_true rfl) ?_
        rintro _ _ _ ⟨rfl, rfl, rfl⟩
        first | refine r_iincN (pc := 161) (tX1_build.at 86 rfl) rfl (by decide) ?_ | refine r_iinc (pc := 161) (tX1_build.at 86 rfl) rfl rfl (by decide) ?_
        refine r_goto (pc := 164) 112 (tX1_build.at 87 rfl) (by decide) ?_
        exact ih (i + 1) _ (by omega) f1 f2
  have key2 : ∀ U, isL U (unkL S w G.n) → ∀ m i C o6 o7, i + m = (unkL S w G.n).length → (∀ r c, r < i → c ≤ (unkL S w G.n).length → C (r * 7 + c) = aug G.W G.n Gn (unkL S w G.n) r c) → J v mX1_build (rmOf 3 0 0) (KM v Po noX 0 0) top 0 0 (eH v h q C U (unkL S w G.n).length) top 91 [some (.ref q), some (.ref g), some (.int (nI S)), some (.int (nI w)), some (.ref ga), some (.int (nI i)), o6, o7] [] := by
    intro U hU m
    induction m with
    | zero =>
      intro i C o6 o7 hi hr
      refine r_iload (pc := 91) (i := 5) (tX1_build.at 50 rfl) rfl ?_
      refine r_aload_n (pc := 93) (i := 0) (tX1_build.at 51 rfl) rfl rfl ?_
      refine r_get (pc := 94) (tX1_build.at 52 rfl) gf_X1_22 (eH_0) rfl ?_
      refine r_icmp_geN (pc := 97) 188 (tX1_build.at 53 rfl) (by decide) (by omega) (by omega) (fun _ => ?_) (fun c => by omega)
      refine r_vret (pc := 188) (tX1_build.at 98 rfl) rfl (Nat.le_of_ble_eq_true rfl) (Nat.le_of_ble_eq_true rfl) ?_
      subst hPost
      exact ⟨rfl, rfl, C, U, rfl, fun i j h1 h2 => hr i j (by omega) h2⟩
    | succ m ih =>
      intro i C o6 o7 hi hr
      refine r_iload (pc := 91) (i := 5) (tX1_build.at 50 rfl) rfl ?_
      refine r_aload_n (pc := 93) (i := 0) (tX1_build.at 51 rfl) rfl rfl ?_
      refine r_get (pc := 94) (tX1_build.at 52 rfl) gf_X1_22 (eH_0) rfl ?_
      refine r_icmp_geN (pc := 97) 188 (tX1_build.at 53 rfl) (by decide) (by omega) (by omega) (fun c => by omega) (fun _ => ?_)
      refine r_aload_n (pc := 100) (i := 0) (tX1_build.at 54 rfl) rfl rfl ?_
      refine r_get (pc := 101) (tX1_build.at 55 rfl) gf_X1_15 (eH_0) rfl ?_
      refine r_iload (pc := 104) (i := 5) (tX1_build.at 56 rfl) rfl ?_
      refine r_iald (pc := 106) (tX1_build.at 57 rfl) (eH_2) (i) (rfl) (by omega) (Nat.le_of_ble_eq_true rfl) ?_
      rw [show iF U i = nI ((unkL S w G.n).getD i 0) by rw [← hU i (by omega)]; rfl]
      refine r_istore (pc := 107) (i := 6) (tX1_build.at 58 rfl) (by decide) ?_
      refine r_iconst (pc := 109) (w := nI 0) (tX1_build.at 59 rfl) (by decide) ?_
      refine r_istore (pc := 110) (i := 7) (tX1_build.at 60 rfl) (by decide) ?_
      exact key3 i U (by omega) hU (fun C o6 o7 hC => ih (i + 1) C o6 o7 (by omega) hC) (unkL S w G.n).length 0 C (by omega) hr (fun c hc => by omega)
  have key1 : ∀ m u U, u + m = G.n → isL U (ordL S w u) → J v mX1_build (rmOf 3 0 0) (KM v Po noX 0 0) top 0 0 (eH v h q C U (ordL S w u).length) top 8 [some (.ref q), some (.ref g), some (.int (nI S)), some (.int (nI w)), some (.ref ga), some (.int (nI u)), none, none] [] := by
    intro m
    induction m with
    | zero =>
      intro u U hu hU
      have hu : u = G.n := by omega
      subst hu
      have hll : (unkL S w G.n).length = (ordL S w G.n).length + 1 := by unfold unkL; rw [List.length_append]; rfl
      refine r_iload (pc := 8) (i := 5) (tX1_build.at 5 rfl) rfl ?_
      refine r_aload_n (pc := 10) (i := 1) (tX1_build.at 6 rfl) rfl rfl ?_
      refine r_get (pc := 11) (tX1_build.at 7 rfl) gf_X1_54 ((gG _ _ _).1) rfl ?_
      refine r_icmp_geN (pc := 14) 59 (tX1_build.at 8 rfl) (by decide) (by omega) (by omega) (fun _ => ?_) (fun c => by omega)
      refine r_aload_n (pc := 59) (i := 0) (tX1_build.at 32 rfl) rfl rfl ?_
      refine r_get (pc := 60) (tX1_build.at 33 rfl) gf_X1_22 (eH_0) rfl ?_
      refine r_bipush (pc := 63) (w := nI 6) (tX1_build.at 34 rfl) (by decide) ?_
      refine r_icmp_geN (pc := 65) 88 (tX1_build.at 35 rfl) (by decide) (by omega) (by omega) (fun c => by omega) (fun _ => ?_)
      refine r_aload_n (pc := 68) (i := 0) (tX1_build.at 36 rfl) rfl rfl ?_
      refine r_get (pc := 69) (tX1_build.at 37 rfl) gf_X1_15 (eH_0) rfl ?_
      refine r_aload_n (pc := 72) (i := 0) (tX1_build.at 38 rfl) rfl rfl ?_
      refine r_get (pc := 73) (tX1_build.at 39 rfl) gf_X1_22 (eH_0) rfl ?_
      refine r_iload_n (pc := 76) (i := 3) (tX1_build.at 40 rfl) rfl rfl ?_
      refine r_iast (pc := 77) (tX1_build.at 41 rfl) (eH_2) ((ordL S w G.n).length) (rfl) (by omega) (Nat.le_of_ble_eq_true rfl) ?_
      rw [upd_iF, eH_p2]
      refine r_aload_n (pc := 78) (i := 0) (tX1_build.at 42 rfl) rfl rfl ?_
      refine r_dup (pc := 79) (tX1_build.at 43 rfl) rfl ?_
      refine r_get (pc := 80) (tX1_build.at 44 rfl) gf_X1_22 (eH_0) rfl ?_
      refine r_iconst (pc := 83) (w := nI 1) (tX1_build.at 45 rfl) (by decide) ?_
      first | refine r_iaddN (pc := 84) (tX1_build.at 46 rfl) ?_ | refine r_iadd (pc := 84) (tX1_build.at 46 rfl) ?_
      refine r_put (pc := 85) (tX1_build.at 47 rfl) pf_X1_22 (eH_0) (Nat.le_of_ble_eq_true rfl) (rfl) (rfl) ?_
      refine r_eq (h2 := eH v h q C (upN U (ordL S w G.n).length w) (unkL S w G.n).length) (by rw [hll]; exact eH_p0 _) rfl ?_
      refine r_iconst (pc := 88) (w := nI 0) (tX1_build.at 48 rfl) (by decide) ?_
      refine r_istore (pc := 89) (i := 5) (tX1_build.at 49 rfl) (by decide) ?_
      exact key2 _ (hU.push w) (unkL S w G.n).length 0 C none none (by omega) (fun r c h1 h2 => by omega)
    | succ m ih =>
      intro u U hu hU
      have hle := ordL_len S w u
      have hsm : (ordL S w u).length < 6 := by omega
      refine r_iload (pc := 8) (i := 5) (tX1_build.at 5 rfl) rfl ?_
      refine r_aload_n (pc := 10) (i := 1) (tX1_build.at 6 rfl) rfl rfl ?_
      refine r_get (pc := 11) (tX1_build.at 7 rfl) gf_X1_54 ((gG _ _ _).1) rfl ?_
      refine r_icmp_geN (pc := 14) 59 (tX1_build.at 8 rfl) (by decide) (by omega) (by omega) (fun c => by omega) (fun _ => ?_)
      refine r_iload (pc := 17) (i := 5) (tX1_build.at 9 rfl) rfl ?_
      refine r_iload_n (pc := 19) (i := 3) (tX1_build.at 10 rfl) rfl rfl ?_
      refine r_icmp_eqN (pc := 20) 53 (tX1_build.at 11 rfl) (by decide) (by omega) (by omega) (fun c1 => ?_) (fun c1 => ?_)
      · first | refine r_iincN (pc := 53) (tX1_build.at 30 rfl) rfl (by decide) ?_ | refine r_iinc (pc := 53) (tX1_build.at 30 rfl) rfl rfl (by decide) ?_
        refine r_goto (pc := 56) 8 (tX1_build.at 31 rfl) (by decide) ?_
        have hE : ordL S w (u + 1) = ordL S w u := by rw [ordL, if_neg (by omega)]
        have nx := ih (u + 1) U (by omega) (by rw [hE]; exact hU)
        rw [hE] at nx
        exact nx
      · refine r_iload_n (pc := 23) (i := 2) (tX1_build.at 12 rfl) rfl rfl ?_
        refine r_iload (pc := 24) (i := 5) (tX1_build.at 13 rfl) rfl ?_
        refine r_ishr (pc := 26) (tX1_build.at 14 rfl) ?_
        refine r_iconst (pc := 27) (w := nI 1) (tX1_build.at 15 rfl) (by decide) ?_
        refine r_iand (pc := 28) (tX1_build.at 16 rfl) ?_
        rw [bs_sh _ hS u (by omega)]
        have hb : Bool.toNat (S.testBit u) ≤ 1 := Bool.toNat_le _
        refine r_if_eqN (pc := 29) 53 (tX1_build.at 17 rfl) (by decide) (by omega) (fun c2 => ?_) (fun c2 => ?_)
        · first | refine r_iincN (pc := 53) (tX1_build.at 30 rfl) rfl (by decide) ?_ | refine r_iinc (pc := 53) (tX1_build.at 30 rfl) rfl rfl (by decide) ?_
          refine r_goto (pc := 56) 8 (tX1_build.at 31 rfl) (by decide) ?_
          have hE : ordL S w (u + 1) = ordL S w u := by rw [ordL, if_neg (by intro z; rw [z.2] at c2; cases c2)]
          have nx := ih (u + 1) U (by omega) (by rw [hE]; exact hU)
          rw [hE] at nx
          exact nx
        · have hE : ordL S w (u + 1) = ordL S w u ++ [u] := by rw [ordL, if_pos ⟨c1, by cases q : S.testBit u <;> simp_all⟩]
          have nx := ih (u + 1) (upN U (ordL S w u).length u) (by omega) (by rw [hE]; exact hU.push u)
          rw [hE, List.length_append] at nx
          refine r_aload_n (pc := 32) (i := 0) (tX1_build.at 18 rfl) rfl rfl ?_
          refine r_get (pc := 33) (tX1_build.at 19 rfl) gf_X1_15 (eH_0) rfl ?_
          refine r_aload_n (pc := 36) (i := 0) (tX1_build.at 20 rfl) rfl rfl ?_
          refine r_get (pc := 37) (tX1_build.at 21 rfl) gf_X1_22 (eH_0) rfl ?_
          refine r_iload (pc := 40) (i := 5) (tX1_build.at 22 rfl) rfl ?_
          refine r_iast (pc := 42) (tX1_build.at 23 rfl) (eH_2) ((ordL S w u).length) (rfl) (by omega) (Nat.le_of_ble_eq_true rfl) ?_
          rw [upd_iF, eH_p2]
          refine r_aload_n (pc := 43) (i := 0) (tX1_build.at 24 rfl) rfl rfl ?_
          refine r_dup (pc := 44) (tX1_build.at 25 rfl) rfl ?_
          refine r_get (pc := 45) (tX1_build.at 26 rfl) gf_X1_22 (eH_0) rfl ?_
          refine r_iconst (pc := 48) (w := nI 1) (tX1_build.at 27 rfl) (by decide) ?_
          first | refine r_iaddN (pc := 49) (tX1_build.at 28 rfl) ?_ | refine r_iadd (pc := 49) (tX1_build.at 28 rfl) ?_
          refine r_put (pc := 50) (tX1_build.at 29 rfl) pf_X1_22 (eH_0) (Nat.le_of_ble_eq_true rfl) (rfl) (rfl) ?_
          refine r_eq (h2 := eH v h q C (upN U (ordL S w u).length u) ((ordL S w u).length + [u].length)) (eH_p0 _) rfl ?_
          first | refine r_iincN (pc := 53) (tX1_build.at 30 rfl) rfl (by decide) ?_ | refine r_iinc (pc := 53) (tX1_build.at 30 rfl) rfl rfl (by decide) ?_
          refine r_goto (pc := 56) 8 (tX1_build.at 31 rfl) (by decide) ?_
          exact nx
  exact key1 G.n 0 U (by omega) (fun i hi => by simp [ordL] at hi)

