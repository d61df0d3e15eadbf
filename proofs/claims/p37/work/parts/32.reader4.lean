/-! ===== Reader: the cost statement ===== -/
def RD.beg (R : RD) : RD := ((R.1.1, R.1.2.1, (1, 0, 0)), R.2)
/-- the loop of the cost statement: f rounds left -/
def rdC : Nat → Nat → Bool → RD → Bool × RD
  | 0, _, _, R => (false, R.fail (-2))
  | f + 1, nest, wants, R =>
    if wants = true then
      (if R.take.kd = 40 then (if 4 ≤ nest then (false, R.take.fail (-5)) else rdC f (nest + 1) true (R.take.push R.take.kd))
       else if (rdFac R.take).1 = true then rdC f nest false (rdFac R.take).2 else (false, (rdFac R.take).2))
    else if 0 < str R.take.kd then rdC f nest true ((R.take.rel (str R.take.kd)).push R.take.kd)
    else if R.take.kd = 41 ∧ 0 < nest then rdC f (nest - 1) false ((R.take.rel 1).sWc ((R.take.rel 1).wc - 1))
    else if R.take.kd = 59 ∧ nest = 0 then (true, R.take.rel 1)
    else (false, R.take.fail (-2))
def rdCost (R : RD) : Bool × RD := if R.hc = 1 then (false, R.fail (-2)) else rdC R.T.2.2 0 true R.beg
/-- what each step keeps: tokens, draft, hasCost; and how far codes and waiting grow -/
def grw (R R' : RD) (d : Nat) : Prop := R'.T = R.T ∧ R'.G = R.G ∧ R'.hc = R.hc ∧ R'.nx = R.nx ∧ R'.cl + R'.wc ≤ R.cl + R.wc + d
theorem grw.trans {A B C : RD} {d e : Nat} (h : grw A B d) (k : grw B C e) : grw A C (d + e) := by
  obtain ⟨a1, a2, a3, a4, a5⟩ := h
  obtain ⟨b1, b2, b3, b4, b5⟩ := k
  exact ⟨b1.trans a1, b2.trans a2, b3.trans a3, b4.trans a4, by omega⟩
theorem grw_emit (R : RD) (x : Int) : grw R (R.emit x) 1 := by
  unfold RD.emit
  split
  · refine ⟨rfl, rfl, rfl, rfl, ?_⟩
    show R.cl + 1 + R.wc ≤ _
    omega
  · exact ⟨rfl, rfl, rfl, rfl, by omega⟩
theorem grw_push (R : RD) (x : Int) : grw R (R.push x) 1 := by
  unfold RD.push
  split
  · refine ⟨rfl, rfl, rfl, rfl, ?_⟩
    show R.cl + (R.wc + 1) ≤ _
    omega
  · exact ⟨rfl, rfl, rfl, rfl, by omega⟩
theorem grw_pop1 {R : RD} (h : 0 < R.wc) : grw R R.pop1 0 := by
  obtain ⟨a1, a2, a3, a4, a5⟩ := grw_emit (R.sWc (R.wc - 1)) (oprI (R.wt (R.wc - 1)))
  refine ⟨a1, a2, a3, a4, ?_⟩
  have e : (R.sWc (R.wc - 1)).cl + (R.sWc (R.wc - 1)).wc = R.cl + (R.wc - 1) := rfl
  unfold RD.pop1
  omega
theorem grw_relF (s : Nat) : ∀ (f : Nat) (R : RD), grw R (RD.relF s f R) 0
  | 0, R => ⟨rfl, rfl, rfl, rfl, Nat.le_refl _⟩
  | f + 1, R => by
    rw [RD.relF]
    split
    · next c => exact (grw_pop1 c.1).trans (grw_relF s f R.pop1)
    · exact ⟨rfl, rfl, rfl, rfl, Nat.le_refl _⟩
theorem grw_fac (R : RD) : grw R (rdFac R).2 1 ∨ (rdFac R).1 = false := by
  unfold rdFac
  split
  · split
    · exact Or.inr rfl
    · exact Or.inl (grw_emit _ _)
  · split
    · exact Or.inl (grw_emit _ _)
    · split
      · exact Or.inl (grw_emit _ _)
      · split
        · exact Or.inl (grw_emit _ _)
        · exact Or.inr rfl
/-- the next token lies so far on, or is the end -/
def nxk (k : Nat) (R : RD) : Prop := k ≤ R.nx ∨ R.nx = R.T.2.2 - 1
theorem nxk.take {k : Nat} {R : RD} (h : nxk k R) (hlt : R.nx < R.T.2.2) : nxk (k + 1) R.take := by
  unfold nxk at *
  show k + 1 ≤ (if R.nx < R.T.2.2 - 1 then R.nx + 1 else R.nx) ∨ (if R.nx < R.T.2.2 - 1 then R.nx + 1 else R.nx) = R.T.2.2 - 1
  split <;> omega
theorem nxk.grw {k d : Nat} {R R' : RD} (h : nxk k R) (g : grw R R' d) : nxk k R' := by
  unfold nxk at *
  rw [g.2.2.2.1, g.1]
  exact h
theorem emit_s (R : RD) (x : Int) : (R.emit x).1.2.1 = R.1.2.1 ∧ (R.emit x).wt = R.wt ∧ (R.emit x).wc = R.wc := by
  unfold RD.emit
  split <;> exact ⟨rfl, rfl, rfl⟩
def relW (s : Nat) (wt : Nat → Int) : Nat → Nat → Nat
  | 0, w => w
  | f + 1, w => if 0 < w ∧ s ≤ str (wt (w - 1)) then relW s wt f (w - 1) else w
theorem relF_s (s : Nat) : ∀ (f : Nat) (R : RD), (RD.relF s f R).1.2.1 = R.1.2.1 ∧ (RD.relF s f R).wt = R.wt ∧ (RD.relF s f R).wc = relW s R.wt f R.wc
  | 0, R => ⟨rfl, rfl, rfl⟩
  | f + 1, R => by
    rw [RD.relF, relW]
    split
    · obtain ⟨h1, h2, h3⟩ := relF_s s f R.pop1
      obtain ⟨g1, g2, g3⟩ := emit_s (R.sWc (R.wc - 1)) (oprI (R.wt (R.wc - 1)))
      refine ⟨h1.trans g1, h2.trans g2, h3.trans ?_⟩
      rw [show R.pop1.wt = R.wt from g2, RD.pop1_wc]
    · exact ⟨rfl, rfl, rfl⟩
/-- the operators that wait in one parenthesis -/
def sgm (wt : Nat → Int) (lo hi : Nat) : Prop := hi = lo ∨ (hi = lo + 1 ∧ 1 ≤ str (wt lo)) ∨ (hi = lo + 2 ∧ str (wt lo) = 1 ∧ str (wt (lo + 1)) = 2)
def wtI (wt : Nat → Int) : Nat → Nat → Prop
  | 0, w => sgm wt 0 w
  | n + 1, w => ∃ p, p < w ∧ wt p = 40 ∧ wtI wt n p ∧ sgm wt (p + 1) w
theorem sgm_le {wt : Nat → Int} {lo hi : Nat} (h : sgm wt lo hi) : lo ≤ hi ∧ hi ≤ lo + 2 := by unfold sgm at h; omega
theorem wtI_le {wt : Nat → Int} : ∀ {n w : Nat}, wtI wt n w → w ≤ 3 * n + 2
  | 0, w, h => by have := sgm_le h; omega
  | n + 1, w, ⟨p, h1, h2, h3, h4⟩ => by
    have := sgm_le h4
    have := wtI_le h3
    omega
theorem str_2 (k : Int) : str k ≤ 2 := by unfold str; split <;> (try split) <;> omega
theorem str_40 : str 40 = 0 := by decide
theorem rel1_sgm {wt : Nat → Int} {lo hi : Nat} (h : sgm wt lo hi) (hb : lo = 0 ∨ wt (lo - 1) = 40) : ∀ f, hi ≤ f → relW 1 wt f hi = lo := by
  have base : ∀ f, lo ≤ f → relW 1 wt f lo = lo := by
    intro f hf
    cases f with
    | zero => rfl
    | succ f =>
      rw [relW, if_neg]
      rintro ⟨q1, q2⟩
      rcases hb with hb | hb
      · omega
      · rw [hb, str_40] at q2
        omega
  intro f hf
  rcases h with rfl | ⟨rfl, h1⟩ | ⟨rfl, h1, h2⟩
  · exact base f hf
  · cases f with
    | zero => omega
    | succ f =>
      rw [relW, if_pos ⟨by omega, h1⟩]
      exact base f (by omega)
  · cases f with
    | zero => omega
    | succ f =>
      rw [relW, if_pos ⟨by omega, by rw [show lo + 2 - 1 = lo + 1 from rfl, h2]; omega⟩]
      cases f with
      | zero => omega
      | succ f =>
        rw [show lo + 2 - 1 = lo + 1 from rfl, relW, if_pos ⟨by omega, by rw [show lo + 1 - 1 = lo from rfl, h1]; omega⟩]
        exact base f (by omega)
theorem rel2_sgm {wt : Nat → Int} {lo hi : Nat} (h : sgm wt lo hi) (hb : lo = 0 ∨ wt (lo - 1) = 40) : ∀ f, hi ≤ f → relW 2 wt f hi = lo ∨ (relW 2 wt f hi = lo + 1 ∧ str (wt lo) = 1) := by
  have base : ∀ f, relW 2 wt f lo = lo := by
    intro f
    cases f with
    | zero => rfl
    | succ f =>
      rw [relW, if_neg]
      rintro ⟨q1, q2⟩
      rcases hb with hb | hb
      · omega
      · rw [hb, str_40] at q2
        omega
  have one : ∀ f, lo + 1 ≤ f → 1 ≤ str (wt lo) → relW 2 wt f (lo + 1) = lo ∨ (relW 2 wt f (lo + 1) = lo + 1 ∧ str (wt lo) = 1) := by
    intro f hf h1
    cases f with
    | zero => omega
    | succ f =>
      have h2 := str_2 (wt lo)
      rw [relW]
      by_cases c : 2 ≤ str (wt lo)
      · rw [if_pos ⟨by omega, c⟩]
        exact Or.inl (base f)
      · rw [if_neg (fun z => c z.2)]
        exact Or.inr ⟨rfl, by omega⟩
  intro f hf
  rcases h with rfl | ⟨rfl, h1⟩ | ⟨rfl, h1, h2⟩
  · exact Or.inl (base f)
  · exact one f hf h1
  · cases f with
    | zero => omega
    | succ f =>
      rw [relW, if_pos ⟨by omega, by rw [show lo + 2 - 1 = lo + 1 from rfl, h2]; omega⟩]
      exact one f (by omega) (by omega)
theorem sgm_cong {wt wt' : Nat → Int} {lo hi : Nat} (h : sgm wt lo hi) (e : ∀ k, k < hi → wt' k = wt k) : sgm wt' lo hi := by
  rcases h with rfl | ⟨rfl, h1⟩ | ⟨rfl, h1, h2⟩
  · exact Or.inl rfl
  · exact Or.inr (Or.inl ⟨rfl, by rw [e lo (by omega)]; exact h1⟩)
  · exact Or.inr (Or.inr ⟨rfl, by rw [e lo (by omega)]; exact h1, by rw [e (lo + 1) (by omega)]; exact h2⟩)
theorem wtI_cong {wt wt' : Nat → Int} : ∀ {n w : Nat}, wtI wt n w → (∀ k, k < w → wt' k = wt k) → wtI wt' n w
  | 0, w, h, e => sgm_cong h e
  | n + 1, w, ⟨p, h1, h2, h3, h4⟩, e => ⟨p, h1, by rw [e p h1]; exact h2, wtI_cong h3 (fun k hk => e k (by omega)), sgm_cong h4 e⟩
/-- behind release(1): back to the parenthesis -/
theorem wtI_rel1 {wt : Nat → Int} : ∀ {n w : Nat}, wtI wt n w → ∀ f, w ≤ f → wtI wt n (relW 1 wt f w) ∧ (0 < n → 0 < relW 1 wt f w ∧ wtI wt (n - 1) (relW 1 wt f w - 1)) ∧ (n = 0 → relW 1 wt f w = 0)
  | 0, w, h, f, hf => by
    rw [rel1_sgm h (Or.inl rfl) f hf]
    exact ⟨Or.inl rfl, fun z => absurd z (by omega), fun _ => rfl⟩
  | n + 1, w, ⟨p, h1, h2, h3, h4⟩, f, hf => by
    rw [rel1_sgm h4 (Or.inr h2) f hf]
    exact ⟨⟨p, by omega, h2, h3, Or.inl rfl⟩, fun _ => ⟨by omega, h3⟩, fun z => absurd z (by omega)⟩
/-- behind release(s) there is room for an operator of strength s -/
theorem wtI_rels {wt : Nat → Int} {s : Nat} (hs : s = 1 ∨ s = 2) {x : Int} (hx : str x = s) : ∀ {n w : Nat}, wtI wt n w → ∀ f, w ≤ f → relW s wt f w ≤ 3 * n + 1 ∧ wtI (upZ wt (relW s wt f w) x) n (relW s wt f w + 1) := by
  have fin : ∀ lo w f, sgm wt lo w → (lo = 0 ∨ wt (lo - 1) = 40) → w ≤ f → lo ≤ relW s wt f w ∧ relW s wt f w ≤ lo + 1 ∧ sgm (upZ wt (relW s wt f w) x) lo (relW s wt f w + 1) := by
    intro lo w f h hb hf
    rcases hs with rfl | rfl
    · rw [rel1_sgm h hb f hf]
      exact ⟨Nat.le_refl _, by omega, Or.inr (Or.inl ⟨rfl, by rw [upZ_eq]; omega⟩)⟩
    · rcases rel2_sgm h hb f hf with e | ⟨e, e2⟩
      · rw [e]
        exact ⟨Nat.le_refl _, by omega, Or.inr (Or.inl ⟨rfl, by rw [upZ_eq]; omega⟩)⟩
      · rw [e]
        exact ⟨by omega, Nat.le_refl _, Or.inr (Or.inr ⟨rfl, by rw [upZ_ne _ _ (by omega)]; exact e2, by rw [upZ_eq]; exact hx⟩)⟩
  intro n
  cases n with
  | zero =>
    intro w h f hf
    obtain ⟨g1, g2, g3⟩ := fin 0 w f h (Or.inl rfl) hf
    exact ⟨by omega, g3⟩
  | succ n =>
    rintro w ⟨p, h1, h2, h3, h4⟩ f hf
    obtain ⟨g1, g2, g3⟩ := fin (p + 1) w f h4 (Or.inr h2) hf
    have := wtI_le h3
    refine ⟨by omega, p, by omega, by rw [upZ_ne _ _ (by omega)]; exact h2, wtI_cong h3 (fun k hk => upZ_ne _ _ (by omega)), g3⟩
theorem wtI_open {wt : Nat → Int} {n w : Nat} (h : wtI wt n w) : wtI (upZ wt w 40) (n + 1) (w + 1) := ⟨w, by omega, upZ_eq _ _ _, wtI_cong h (fun k hk => upZ_ne _ _ (by omega)), Or.inl rfl⟩
theorem RD.push_s {R : RD} {x : Int} (h : R.wc < 14) : (R.push x).wt = upZ R.wt R.wc x ∧ (R.push x).wc = R.wc + 1 := by
  unfold RD.push
  rw [if_pos h]
  exact ⟨rfl, rfl⟩
theorem rel_s (s : Nat) (R : RD) : (R.rel s).kd = R.kd ∧ (R.rel s).wt = R.wt ∧ (R.rel s).wc = relW s R.wt R.wc R.wc := by
  obtain ⟨h1, h2, h3⟩ := relF_s s R.wc R
  exact ⟨congrArg Prod.fst h1, h2, h3⟩
theorem fac_s {R : RD} (h : (rdFac R).1 = true) : (rdFac R).2.wt = R.wt ∧ (rdFac R).2.wc = R.wc := by
  have e : ∀ x, (R.emit x).wt = R.wt ∧ (R.emit x).wc = R.wc := fun x => (emit_s R x).2
  unfold rdFac at h ⊢
  split
  · next c =>
    rw [if_pos c] at h
    split
    · next c2 => rw [if_pos c2] at h; cases h
    · exact e _
  · next c =>
    rw [if_neg c] at h
    split
    · exact e _
    · next c2 =>
      rw [if_neg c2] at h
      split
      · exact e _
      · next c3 =>
        rw [if_neg c3] at h
        split
        · exact e _
        · next c4 => rw [if_neg c4] at h; cases h
def endT (t : TK) : Prop := t.2.1.1 (t.2.2 - 1) = 256
def bLt (x : Bool) : Nat := Bool.toNat x
/-- how a heap looks behind a statement that may make the row of codes -/
def pC (v : Ev) (h : Hp) (q top : Nat) (x : Bool × RD) : Option Value → Hp → Nat → Prop := fun r h' top' =>
  (x.1 = true ∧ r = some (.int (nI 1)) ∧ h' = rdH v (hp h top (aI v x.2.cl (cpF (sF x.2.cd) (fun _ => 0) x.2.cl))) q (x.2.sG (x.2.G.sF top)) ∧ top' = top + 1) ∨ (x.1 = false ∧ r = some (.int (nI 0)) ∧ h' = rdH v h q x.2 ∧ top' = top)
theorem c_rdCost {v : Ev} {h : Hp} {top q : Nat} {R : RD} (ok : okR R) (hk : nxk 4 R) (he : endT R.T) (hq : q + 14 ≤ top) : Cal v mX6_readCost 3 1 600 [.ref q] (rdH v h q R) top (pC v h q top (rdCost R)) noX := by
  have hhc : R.hc ≤ 1 := ok.1.2.2.2.2.1
  have hT := ok.2.1
  have hct1 : 1 ≤ R.T.2.2 := hT.1
  have hct2 : R.T.2.2 ≤ 601 := hT.2.1
  refine Cal.ofJ (by decide +kernel) rfl (Nat.le_of_ble_eq_true rfl) fun hz0 => ?_
  refine r_ls [some (.ref q), none, none, none] rfl ?_
  refine r_aload_n (pc := 0) (i := 0) (tX6_readCost.at 0 rfl) rfl rfl ?_
  refine r_get (pc := 1) (tX6_readCost.at 1 rfl) gf_X6_44 (rdH_0) rfl ?_
  refine r_eq rfl (st2 := [.int (nI R.hc)]) rfl ?_
  by_cases c0 : R.hc = 1
  · rw [rdCost, if_pos c0]
    refine r_if_eqN (pc := 4) 14 (tX6_readCost.at 2 rfl) (by decide) (by omega) (fun z => by omega) (fun _ => ?_)
    refine r_aload_n (pc := 7) (i := 0) (tX6_readCost.at 3 rfl) rfl rfl ?_
    refine r_bipush (pc := 8) (w := zI (-2)) (tX6_readCost.at 4 rfl) (by decide) ?_
    refine r_callV (M' := mX6_fail) (pc := 10) (tX6_readCost.at 5 rfl) ml_X6_64 rfl mw_X6_fail ⟨by decide, by decide⟩ (rdH_0) rfl rfl (c_fail (c := -2)) rfl rfl (Nat.le_of_ble_eq_true rfl) (Nat.le_of_ble_eq_true rfl) (Nat.le_of_ble_eq_true rfl) ?_
    rintro _ _ _ ⟨rfl, rfl, rfl⟩
    refine r_zret (pc := 13) (tX6_readCost.at 6 rfl) rfl (rfl) (Nat.le_of_ble_eq_true rfl) (Nat.le_of_ble_eq_true rfl) ?_
    exact Or.inr ⟨rfl, rfl, rfl, rfl⟩
  rw [rdCost, if_neg c0]
  refine r_if_eqN (pc := 4) 14 (tX6_readCost.at 2 rfl) (by decide) (by omega) (fun _ => ?_) (fun z => by omega)
  refine r_aload_n (pc := 14) (i := 0) (tX6_readCost.at 7 rfl) rfl rfl ?_
  refine r_iconst (pc := 15) (w := nI 1) (tX6_readCost.at 8 rfl) (by decide) ?_
  refine r_put (pc := 16) (tX6_readCost.at 9 rfl) pf_X6_44 (rdH_0) (Nat.le_of_ble_eq_true rfl) (rfl) (rfl) ?_
  refine r_eq (h2 := rdH v h q ((R.1.1, R.1.2.1, (1, R.cl, R.wc)), R.2)) (rdH_p0 (R := R) (R.1.1, R.1.2.1, (1, R.cl, R.wc))) rfl ?_
  refine r_aload_n (pc := 19) (i := 0) (tX6_readCost.at 10 rfl) rfl rfl ?_
  refine r_iconst (pc := 20) (w := nI 0) (tX6_readCost.at 11 rfl) (by decide) ?_
  refine r_put (pc := 21) (tX6_readCost.at 12 rfl) pf_X6_52 (rdH_0) (Nat.le_of_ble_eq_true rfl) (rfl) (rfl) ?_
  refine r_eq (h2 := rdH v h q ((R.1.1, R.1.2.1, (1, 0, R.wc)), R.2)) (rdH_p0 (R := ((R.1.1, R.1.2.1, (1, R.cl, R.wc)), R.2)) (R.1.1, R.1.2.1, (1, 0, R.wc))) rfl ?_
  refine r_aload_n (pc := 24) (i := 0) (tX6_readCost.at 13 rfl) rfl rfl ?_
  refine r_iconst (pc := 25) (w := nI 0) (tX6_readCost.at 14 rfl) (by decide) ?_
  refine r_put (pc := 26) (tX6_readCost.at 15 rfl) pf_X6_58 (rdH_0) (Nat.le_of_ble_eq_true rfl) (rfl) (rfl) ?_
  refine r_eq (h2 := rdH v h q R.beg) (rdH_p0 (R := ((R.1.1, R.1.2.1, (1, 0, R.wc)), R.2)) (R.1.1, R.1.2.1, (1, 0, 0))) rfl ?_
  refine r_iconst (pc := 29) (w := nI 0) (tX6_readCost.at 16 rfl) (by decide) ?_
  refine r_istore_n (pc := 30) (i := 1) (tX6_readCost.at 17 rfl) rfl (by decide) ?_
  refine r_iconst (pc := 31) (w := nI 1) (tX6_readCost.at 18 rfl) (by decide) ?_
  refine r_istore_n (pc := 32) (i := 2) (tX6_readCost.at 19 rfl) rfl (by decide) ?_
  refine r_iconst (pc := 33) (w := nI 0) (tX6_readCost.at 20 rfl) (by decide) ?_
  refine r_istore_n (pc := 34) (i := 3) (tX6_readCost.at 21 rfl) rfl (by decide) ?_
  have okb : okR R.beg := by
    obtain ⟨⟨h1, h2, h3, h4, h5, h6, h7⟩, g⟩ := ok
    exact ⟨⟨h1, h2, h3, h4, Nat.le_refl _, Nat.zero_le _, Nat.zero_le _⟩, g⟩
  generalize hct : R.T.2.2 = ct at *
  generalize hX : rdC ct 0 true R.beg = X
  have fl : ∀ (R : RD) (c : Int) (ws : List (Option Value)), (false, R.fail c) = X → pC v h q top X (some (.int (nI 0))) (rdH v h q (R.fail c)) top := by
    intro R c ws hE
    rw [← hE]
    exact Or.inr ⟨rfl, rfl, rfl, rfl⟩
  have fail2 : ∀ (R : RD) (w1 w2 w3 : Option Value), (false, R.fail (-2)) = X → J v mX6_readCost (rmOf 3 1 600) (KM v (pC v h q top X) noX 1 600) top 0 0 (rdH v h q R) top 213 [some (.ref q), w1, w2, w3] [] := by
    intro R w1 w2 w3 hE
    refine r_aload_n (pc := 213) (i := 0) (tX6_readCost.at 110 rfl) rfl rfl ?_
    refine r_bipush (pc := 214) (w := zI (-2)) (tX6_readCost.at 111 rfl) (by decide) ?_
    refine r_callV (M' := mX6_fail) (pc := 216) (tX6_readCost.at 112 rfl) ml_X6_64 rfl mw_X6_fail ⟨by decide, by decide⟩ (rdH_0) rfl rfl (c_fail (c := -2)) rfl rfl (Nat.le_of_ble_eq_true rfl) (Nat.le_of_ble_eq_true rfl) (Nat.le_of_ble_eq_true rfl) ?_
    rintro _ _ _ ⟨rfl, rfl, rfl⟩
    refine r_zret (pc := 219) (tX6_readCost.at 113 rfl) rfl (rfl) (Nat.le_of_ble_eq_true rfl) (Nat.le_of_ble_eq_true rfl) ?_
    exact fl _ _ [] hE
  have key : ∀ f k nest wants (R : RD), k + f = ct → okR R → R.T.2.2 = ct → endT R.T → R.cl + R.wc ≤ k → nxk (k + 4) R → nest ≤ 4 → wtI R.wt nest R.wc → rdC f nest wants R = X → J v mX6_readCost (rmOf 3 1 600) (KM v (pC v h q top X) noX 1 600) top 0 0 (rdH v h q R) top 35 [some (.ref q), some (.int (nI nest)), some (.int (nI (bLt wants))), some (.int (nI k))] [] := by
    intro f
    induction f with
    | zero =>
      intro k nest wants R hf ok hc he hg hx hn hI hE
      refine r_iload_n (pc := 35) (i := 3) (tX6_readCost.at 22 rfl) rfl rfl ?_
      refine r_aload_n (pc := 36) (i := 0) (tX6_readCost.at 23 rfl) rfl rfl ?_
      refine r_get (pc := 37) (tX6_readCost.at 24 rfl) gf_X6_12 (rdH_0) rfl ?_
      refine r_get (pc := 40) (tX6_readCost.at 25 rfl) gf_X6_80 (rdH_t0) rfl ?_
      rw [hc]
      refine r_icmp_geN (pc := 43) 226 (tX6_readCost.at 26 rfl) (by decide) (by omega) (by omega) (fun _ => ?_) (fun c => by omega)
      refine r_aload_n (pc := 226) (i := 0) (tX6_readCost.at 116 rfl) rfl rfl ?_
      refine r_bipush (pc := 227) (w := zI (-2)) (tX6_readCost.at 117 rfl) (by decide) ?_
      refine r_callV (M' := mX6_fail) (pc := 229) (tX6_readCost.at 118 rfl) ml_X6_64 rfl mw_X6_fail ⟨by decide, by decide⟩ (rdH_0) rfl rfl (c_fail (c := -2)) rfl rfl (Nat.le_of_ble_eq_true rfl) (Nat.le_of_ble_eq_true rfl) (Nat.le_of_ble_eq_true rfl) ?_
      rintro _ _ _ ⟨rfl, rfl, rfl⟩
      refine r_zret (pc := 232) (tX6_readCost.at 119 rfl) rfl (rfl) (Nat.le_of_ble_eq_true rfl) (Nat.le_of_ble_eq_true rfl) ?_
      exact fl _ _ [] hE
    | succ f ih =>
      intro k nest wants R hf ok hc he hg hx hn hI hE
      have okt := RD.take_ok ok
      have hxt : nxk (k + 1 + 4) R.take := nxk.take hx ok.1.1
      have kb : -128 ≤ R.take.kd ∧ R.take.kd ≤ 266 := okt.1.2.1
      have gt : R.take.cl + R.take.wc ≤ k := hg
      have hIt : wtI R.take.wt nest R.take.wc := hI
      have hle := wtI_le hIt
      have sb : str R.take.kd ≤ 2 := by unfold str; split <;> (try split) <;> omega
      rw [rdC] at hE
      refine r_iload_n (pc := 35) (i := 3) (tX6_readCost.at 22 rfl) rfl rfl ?_
      refine r_aload_n (pc := 36) (i := 0) (tX6_readCost.at 23 rfl) rfl rfl ?_
      refine r_get (pc := 37) (tX6_readCost.at 24 rfl) gf_X6_12 (rdH_0) rfl ?_
      refine r_get (pc := 40) (tX6_readCost.at 25 rfl) gf_X6_80 (rdH_t0) rfl ?_
      rw [hc]
      refine r_icmp_geN (pc := 43) 226 (tX6_readCost.at 26 rfl) (by decide) (by omega) (by omega) (fun c => by omega) (fun _ => ?_)
      refine r_aload_n (pc := 46) (i := 0) (tX6_readCost.at 27 rfl) rfl rfl ?_
      refine r_callV (M' := mX6_takeToken) (pc := 47) (tX6_readCost.at 28 rfl) ml_X6_61 rfl mw_X6_takeToken ⟨by decide, by decide⟩ (rdH_0) rfl rfl (c_take ok) rfl rfl (Nat.le_of_ble_eq_true rfl) (Nat.le_of_ble_eq_true rfl) (Nat.le_of_ble_eq_true rfl) ?_
      rintro _ _ _ ⟨rfl, rfl, rfl⟩
      refine r_iload_n (pc := 50) (i := 2) (tX6_readCost.at 29 rfl) rfl rfl ?_
      cases wants with
      | true =>
        rw [if_pos rfl] at hE
        refine r_if_eqN (pc := 51) 89 (tX6_readCost.at 30 rfl) (by decide) (by decide) (fun z => absurd z (by decide)) (fun _ => ?_)
        refine r_aload_n (pc := 54) (i := 0) (tX6_readCost.at 31 rfl) rfl rfl ?_
        refine r_get (pc := 55) (tX6_readCost.at 32 rfl) gf_X6_35 (rdH_0) rfl ?_
        refine r_bipush (pc := 58) (w := zI 40) (tX6_readCost.at 33 rfl) (by decide) ?_
        refine r_eq rfl (st2 := [.int (zI 40), .int (zI R.take.kd)]) rfl ?_
        refine r_icmp_neZ (pc := 60) 89 (tX6_readCost.at 34 rfl) (by decide) ⟨by omega, by omega⟩ ⟨by omega, by omega⟩ (fun c1 => ?_) (fun c1 => ?_)
        · rw [if_neg c1] at hE
          refine r_iload_n (pc := 89) (i := 2) (tX6_readCost.at 48 rfl) rfl rfl ?_
          refine r_if_eqN (pc := 90) 107 (tX6_readCost.at 49 rfl) (by decide) (by decide) (fun z => absurd z (by decide)) (fun _ => ?_)
          refine r_aload_n (pc := 93) (i := 0) (tX6_readCost.at 50 rfl) rfl rfl ?_
          refine r_callV (M' := mX6_readFactor) (pc := 94) (tX6_readCost.at 51 rfl) ml_X6_122 rfl mw_X6_readFactor ⟨by decide, by decide⟩ (rdH_0) rfl rfl (c_rdFac okt) rfl rfl (Nat.le_of_ble_eq_true rfl) (Nat.le_of_ble_eq_true rfl) (Nat.le_of_ble_eq_true rfl) ?_
          rintro _ _ _ ⟨rfl, rfl, rfl⟩
          have okf := rdFac_ok okt
          have gf := grw_fac R.take
          by_cases c2 : (rdFac R.take).1 = true
          · rw [if_pos c2] at hE
            have gf2 : grw R.take (rdFac R.take).2 1 := gf.resolve_right (by rw [c2]; decide)
            rw [c2]
            refine r_if_neN (pc := 97) 102 (tX6_readCost.at 52 rfl) (by decide) (by decide) (fun _ => ?_) (fun z => absurd z (by decide))
            refine r_iconst (pc := 102) (w := nI 0) (tX6_readCost.at 55 rfl) (by decide) ?_
            refine r_istore_n (pc := 103) (i := 2) (tX6_readCost.at 56 rfl) rfl (by decide) ?_
            refine r_goto (pc := 104) 220 (tX6_readCost.at 57 rfl) (by decide) ?_
            first | refine r_iincN (pc := 220) (tX6_readCost.at 114 rfl) rfl (by decide) ?_ | refine r_iinc (pc := 220) (tX6_readCost.at 114 rfl) rfl rfl (by decide) ?_
            refine r_goto (pc := 223) 35 (tX6_readCost.at 115 rfl) (by decide) ?_
            exact ih (k + 1) nest false _ (by omega) okf (by rw [gf2.1]; exact hc) (by rw [gf2.1]; exact he) (by have := gf2.2.2.2.2; omega) (hxt.grw gf2) hn (by rw [(fac_s c2).1, (fac_s c2).2]; exact hIt) hE
          · have c3 : (rdFac R.take).1 = false := by simpa using c2
            rw [if_neg c2] at hE
            rw [c3]
            refine r_if_neN (pc := 97) 102 (tX6_readCost.at 52 rfl) (by decide) (by decide) (fun z => absurd rfl z) (fun _ => ?_)
            refine r_iconst (pc := 100) (w := nI 0) (tX6_readCost.at 53 rfl) (by decide) ?_
            refine r_zret (pc := 101) (tX6_readCost.at 54 rfl) rfl (rfl) (Nat.le_of_ble_eq_true rfl) (Nat.le_of_ble_eq_true rfl) ?_
            rw [← hE]
            exact Or.inr ⟨rfl, rfl, rfl, rfl⟩
        · rw [if_pos c1] at hE
          refine r_iload_n (pc := 63) (i := 1) (tX6_readCost.at 35 rfl) rfl rfl ?_
          refine r_iconst (pc := 64) (w := nI 4) (tX6_readCost.at 36 rfl) (by decide) ?_
          refine r_icmp_ltN (pc := 65) 75 (tX6_readCost.at 37 rfl) (by decide) (by omega) (by omega) (fun c2 => ?_) (fun c2 => ?_)
          · rw [if_neg (by omega)] at hE
            have gp := grw_push R.take R.take.kd
            first | refine r_iincN (pc := 75) (tX6_readCost.at 42 rfl) rfl (by decide) ?_ | refine r_iinc (pc := 75) (tX6_readCost.at 42 rfl) rfl rfl (by decide) ?_
            refine r_aload_n (pc := 78) (i := 0) (tX6_readCost.at 43 rfl) rfl rfl ?_
            refine r_aload_n (pc := 79) (i := 0) (tX6_readCost.at 44 rfl) rfl rfl ?_
            refine r_get (pc := 80) (tX6_readCost.at 45 rfl) gf_X6_35 (rdH_0) rfl ?_
            refine r_eq rfl (st2 := [.int (zI R.take.kd), .ref q]) rfl ?_
            refine r_callV (M' := mX6_postpone) (pc := 83) (tX6_readCost.at 46 rfl) ml_X6_119 rfl mw_X6_postpone ⟨by decide, by decide⟩ (rdH_0) rfl rfl (c_push okt) rfl rfl (Nat.le_of_ble_eq_true rfl) (Nat.le_of_ble_eq_true rfl) (Nat.le_of_ble_eq_true rfl) ?_
            rintro _ _ _ ⟨rfl, rfl, rfl⟩
            refine r_goto (pc := 86) 220 (tX6_readCost.at 47 rfl) (by decide) ?_
            first | refine r_iincN (pc := 220) (tX6_readCost.at 114 rfl) rfl (by decide) ?_ | refine r_iinc (pc := 220) (tX6_readCost.at 114 rfl) rfl rfl (by decide) ?_
            refine r_goto (pc := 223) 35 (tX6_readCost.at 115 rfl) (by decide) ?_
            exact ih (k + 1) (nest + 1) true _ (by omega) (RD.push_ok okt kb) (by rw [gp.1]; exact hc) (by rw [gp.1]; exact he) (by have := gp.2.2.2.2; omega) (hxt.grw gp) (by omega) (by rw [(RD.push_s (x := R.take.kd) (by omega)).1, (RD.push_s (x := R.take.kd) (by omega)).2, c1]; exact wtI_open hIt) hE
          · rw [if_pos c2] at hE
            refine r_aload_n (pc := 68) (i := 0) (tX6_readCost.at 38 rfl) rfl rfl ?_
            refine r_bipush (pc := 69) (w := zI (-5)) (tX6_readCost.at 39 rfl) (by decide) ?_
            refine r_callV (M' := mX6_fail) (pc := 71) (tX6_readCost.at 40 rfl) ml_X6_64 rfl mw_X6_fail ⟨by decide, by decide⟩ (rdH_0) rfl rfl (c_fail (c := -5)) rfl rfl (Nat.le_of_ble_eq_true rfl) (Nat.le_of_ble_eq_true rfl) (Nat.le_of_ble_eq_true rfl) ?_
            rintro _ _ _ ⟨rfl, rfl, rfl⟩
            refine r_zret (pc := 74) (tX6_readCost.at 41 rfl) rfl (rfl) (Nat.le_of_ble_eq_true rfl) (Nat.le_of_ble_eq_true rfl) ?_
            exact fl _ _ [] hE
      | false =>
        rw [if_neg (by decide)] at hE
        refine r_if_eqN (pc := 51) 89 (tX6_readCost.at 30 rfl) (by decide) (by decide) (fun _ => ?_) (fun z => absurd rfl z)
        refine r_iload_n (pc := 89) (i := 2) (tX6_readCost.at 48 rfl) rfl rfl ?_
        refine r_if_eqN (pc := 90) 107 (tX6_readCost.at 49 rfl) (by decide) (by decide) (fun _ => ?_) (fun z => absurd rfl z)
        refine r_aload_n (pc := 107) (i := 0) (tX6_readCost.at 58 rfl) rfl rfl ?_
        refine r_get (pc := 108) (tX6_readCost.at 59 rfl) gf_X6_35 (rdH_0) rfl ?_
        refine r_eq rfl (st2 := [.int (zI R.take.kd)]) rfl ?_
        refine r_callS (M' := mX6_strength) (pc := 111) (tX6_readCost.at 60 rfl) ml_X6_125 rfl mw_X6_strength ⟨by decide, by decide⟩ (c_str kb) rfl rfl (Nat.le_of_ble_eq_true rfl) (Nat.le_of_ble_eq_true rfl) (Nat.le_of_ble_eq_true rfl) ?_
        rintro _ _ _ ⟨rfl, rfl, rfl⟩
        refine r_if_leN (pc := 114) 141 (tX6_readCost.at 61 rfl) (by decide) (by omega) (fun c1 => ?_) (fun c1 => ?_)
        · rw [if_neg (by omega)] at hE
          refine r_aload_n (pc := 141) (i := 0) (tX6_readCost.at 74 rfl) rfl rfl ?_
          refine r_get (pc := 142) (tX6_readCost.at 75 rfl) gf_X6_35 (rdH_0) rfl ?_
          refine r_bipush (pc := 145) (w := zI 41) (tX6_readCost.at 76 rfl) (by decide) ?_
          refine r_eq rfl (st2 := [.int (zI 41), .int (zI R.take.kd)]) rfl ?_
          have semi : ¬ (R.take.kd = 41 ∧ 0 < nest) → J v mX6_readCost (rmOf 3 1 600) (KM v (pC v h q top X) noX 1 600) top 0 0 (rdH v h q R.take) top 175 [some (.ref q), some (.int (nI nest)), some (.int (nI (bLt false))), some (.int (nI k))] [] := by
            intro c2
            rw [if_neg c2] at hE
            refine r_aload_n (pc := 175) (i := 0) (tX6_readCost.at 91 rfl) rfl rfl ?_
            refine r_get (pc := 176) (tX6_readCost.at 92 rfl) gf_X6_35 (rdH_0) rfl ?_
            refine r_bipush (pc := 179) (w := zI 59) (tX6_readCost.at 93 rfl) (by decide) ?_
            refine r_eq rfl (st2 := [.int (zI 59), .int (zI R.take.kd)]) rfl ?_
            refine r_icmp_neZ (pc := 181) 213 (tX6_readCost.at 94 rfl) (by decide) ⟨by omega, by omega⟩ ⟨by omega, by omega⟩ (fun c3 => ?_) (fun c3 => ?_)
            · rw [if_neg (by omega)] at hE
              exact fail2 _ _ _ _ hE
            · refine r_iload_n (pc := 184) (i := 1) (tX6_readCost.at 95 rfl) rfl rfl ?_
              refine r_if_neN (pc := 185) 213 (tX6_readCost.at 96 rfl) (by decide) (by omega) (fun c4 => ?_) (fun c4 => ?_)
              · rw [if_neg (by omega)] at hE
                exact fail2 _ _ _ _ hE
              · rw [if_pos ⟨c3, c4⟩] at hE
                have okr := RD.rel_ok (s := 1) okt
                have gr : grw R.take (R.take.rel 1) 0 := grw_relF 1 _ _
                have hne : R.nx ≠ R.T.2.2 - 1 := by
                  intro z
                  have h1 : R.take.kd = R.T.2.1.1 R.nx := rfl
                  have h2 : R.T.2.1.1 (R.T.2.2 - 1) = 256 := he
                  rw [z, h2] at h1
                  omega
                have hlt : R.nx < R.T.2.2 := ok.1.1
                have hcl : (R.take.rel 1).cl < 600 := by
                  have h3 := gr.2.2.2.2
                  have h4 : k + 4 ≤ R.nx := hx.resolve_right hne
                  omega
                refine r_aload_n (pc := 188) (i := 0) (tX6_readCost.at 97 rfl) rfl rfl ?_
                refine r_iconst (pc := 189) (w := nI 1) (tX6_readCost.at 98 rfl) (by decide) ?_
                refine r_callV (M' := mX6_release) (pc := 190) (tX6_readCost.at 99 rfl) ml_X6_129 rfl mw_X6_release ⟨by decide, by decide⟩ (rdH_0) rfl rfl (c_release okt (by omega)) rfl rfl (Nat.le_of_ble_eq_true rfl) (Nat.le_of_ble_eq_true rfl) (Nat.le_of_ble_eq_true rfl) ?_
                rintro _ _ _ ⟨rfl, rfl, rfl⟩
                generalize hR2 : R.take.rel 1 = R2 at okr gr hcl hE ⊢
                refine r_aload_n (pc := 193) (i := 0) (tX6_readCost.at 100 rfl) rfl rfl ?_
                refine r_get (pc := 194) (tX6_readCost.at 101 rfl) gf_X6_21 (rdH_0) rfl ?_
                refine r_aload_n (pc := 197) (i := 0) (tX6_readCost.at 102 rfl) rfl rfl ?_
                refine r_get (pc := 198) (tX6_readCost.at 103 rfl) gf_X6_48 (rdH_0) rfl ?_
                refine r_aload_n (pc := 201) (i := 0) (tX6_readCost.at 104 rfl) rfl rfl ?_
                refine r_get (pc := 202) (tX6_readCost.at 105 rfl) gf_X6_52 (rdH_0) rfl ?_
                refine r_callS (M' := mJ7_copyOf_59c91) (pc := 205) (tX6_readCost.at 106 rfl) ml_X6_132 rfl mw_J7_copyOf_59c91 ⟨by decide, by decide⟩ (c_copyOf (n := R2.cl) rdH_12 (by omega) hcl (by omega)) rfl rfl (Nat.le_of_ble_eq_true rfl) (Nat.le_of_ble_eq_true rfl) (Nat.le_of_ble_eq_true rfl) ?_
                rintro _ _ _ ⟨rfl, rfl, rfl⟩
                rw [rdH_put (by omega)]
                refine r_put (pc := 208) (tX6_readCost.at 107 rfl) pf_X6_138 (rdH_G.1) (Nat.le_of_ble_eq_true rfl) (rfl) (rfl) ?_
                refine r_eq (h2 := rdH v (hp h top (aI v R2.cl (cpF (sF R2.cd) (fun _ => 0) R2.cl))) q (R2.sG (R2.G.sF top))) ?_ rfl ?_
                · have kk := gH_pF (v := v) (h := rdH v (hp h top (aI v R2.cl (cpF (sF R2.cd) (fun _ => 0) R2.cl))) q R2) (g := q + 6) R2.G top
                  rw [rdH_self, rdH_pG] at kk
                  exact kk
                · refine r_iconst (pc := 211) (w := nI 1) (tX6_readCost.at 108 rfl) (by decide) ?_
                  refine r_zret (pc := 212) (tX6_readCost.at 109 rfl) rfl (rfl) (Nat.le_of_ble_eq_true rfl) (Nat.le_of_ble_eq_true rfl) ?_
                  rw [← hE]
                  exact Or.inl ⟨rfl, rfl, rfl, rfl⟩
          refine r_icmp_neZ (pc := 147) 175 (tX6_readCost.at 77 rfl) (by decide) ⟨by omega, by omega⟩ ⟨by omega, by omega⟩ (fun c2 => ?_) (fun c2 => ?_)
          · exact semi (by omega)
          · refine r_iload_n (pc := 150) (i := 1) (tX6_readCost.at 78 rfl) rfl rfl ?_
            refine r_if_leN (pc := 151) 175 (tX6_readCost.at 79 rfl) (by decide) (by omega) (fun c3 => ?_) (fun c3 => ?_)
            · exact semi (by omega)
            · rw [if_pos ⟨c2, c3⟩] at hE
              have okr := RD.rel_ok (s := 1) okt
              have gr : grw R.take (R.take.rel 1) 0 := grw_relF 1 _ _
              have hwc : (R.take.rel 1).wc ≤ 14 := okr.1.2.2.2.2.2.2
              refine r_aload_n (pc := 154) (i := 0) (tX6_readCost.at 80 rfl) rfl rfl ?_
              refine r_iconst (pc := 155) (w := nI 1) (tX6_readCost.at 81 rfl) (by decide) ?_
              refine r_callV (M' := mX6_release) (pc := 156) (tX6_readCost.at 82 rfl) ml_X6_129 rfl mw_X6_release ⟨by decide, by decide⟩ (rdH_0) rfl rfl (c_release okt (by omega)) rfl rfl (Nat.le_of_ble_eq_true rfl) (Nat.le_of_ble_eq_true rfl) (Nat.le_of_ble_eq_true rfl) ?_
              rintro _ _ _ ⟨rfl, rfl, rfl⟩
              obtain ⟨-, hwt, hw2⟩ := rel_s 1 R.take
              obtain ⟨-, i2, -⟩ := wtI_rel1 hIt R.take.wc (Nat.le_refl _)
              obtain ⟨i3, i4⟩ := i2 c3
              rw [← hw2, ← hwt] at i4
              rw [← hw2] at i3
              generalize hR2 : R.take.rel 1 = R2 at okr gr hwc hE i3 i4 ⊢
              refine r_aload_n (pc := 159) (i := 0) (tX6_readCost.at 83 rfl) rfl rfl ?_
              refine r_dup (pc := 160) (tX6_readCost.at 84 rfl) rfl ?_
              refine r_get (pc := 161) (tX6_readCost.at 85 rfl) gf_X6_58 (rdH_0) rfl ?_
              refine r_iconst (pc := 164) (w := nI 1) (tX6_readCost.at 86 rfl) (by decide) ?_
              refine r_eq rfl (st2 := [.int (nI 1), .int (nI R2.wc), .ref q]) rfl ?_
              first | refine r_isubN (pc := 165) (tX6_readCost.at 87 rfl) (by omega) ?_ | refine r_isubZ (pc := 165) (tX6_readCost.at 87 rfl) ?_ | refine r_isub (pc := 165) (tX6_readCost.at 87 rfl) ?_
              refine r_put (pc := 166) (tX6_readCost.at 88 rfl) pf_X6_58 (rdH_0) (Nat.le_of_ble_eq_true rfl) (rfl) (rfl) ?_
              refine r_eq (h2 := rdH v h q (R2.sWc (R2.wc - 1))) (rdH_p0 (R := R2) (R2.1.1, R2.1.2.1, (R2.hc, R2.cl, R2.wc - 1))) rfl ?_
              obtain ⟨m, rfl⟩ : ∃ m, nest = m + 1 := ⟨nest - 1, by omega⟩
              first | refine r_idecN (pc := 169) (tX6_readCost.at 89 rfl) rfl (by decide) ?_ | refine r_iinc (pc := 169) (tX6_readCost.at 89 rfl) rfl rfl (by decide) ?_
              refine r_goto (pc := 172) 220 (tX6_readCost.at 90 rfl) (by decide) ?_
              first | refine r_iincN (pc := 220) (tX6_readCost.at 114 rfl) rfl (by decide) ?_ | refine r_iinc (pc := 220) (tX6_readCost.at 114 rfl) rfl rfl (by decide) ?_
              refine r_goto (pc := 223) 35 (tX6_readCost.at 115 rfl) (by decide) ?_
              exact ih (k + 1) m false _ (by omega) (RD.sWc_ok okr (by omega)) (by show R2.T.2.2 = ct; rw [gr.1]; exact hc) (by show endT R2.T; rw [gr.1]; exact he) (by have := gr.2.2.2.2; show R2.cl + (R2.wc - 1) ≤ _; omega) (by
                have := hxt.grw gr
                exact this) (by omega) i4 hE
        · rw [if_pos c1] at hE
          have okr := RD.rel_ok (s := str R.take.kd) okt
          have gr : grw R.take (R.take.rel (str R.take.kd)) 0 := grw_relF _ _ _
          have gp := grw_push (R.take.rel (str R.take.kd)) R.take.kd
          have gg := gr.trans gp
          obtain ⟨hkd, hwt, hwc⟩ := rel_s (str R.take.kd) R.take
          obtain ⟨i1, i2⟩ := wtI_rels (s := str R.take.kd) (by omega) rfl hIt R.take.wc (Nat.le_refl _)
          rw [← hwc, ← hwt] at i2
          rw [← hwc] at i1
          refine r_aload_n (pc := 117) (i := 0) (tX6_readCost.at 62 rfl) rfl rfl ?_
          refine r_aload_n (pc := 118) (i := 0) (tX6_readCost.at 63 rfl) rfl rfl ?_
          refine r_get (pc := 119) (tX6_readCost.at 64 rfl) gf_X6_35 (rdH_0) rfl ?_
          refine r_eq rfl (st2 := [.int (zI R.take.kd), .ref q]) rfl ?_
          refine r_callS (M' := mX6_strength) (pc := 122) (tX6_readCost.at 65 rfl) ml_X6_125 rfl mw_X6_strength ⟨by decide, by decide⟩ (c_str kb) rfl rfl (Nat.le_of_ble_eq_true rfl) (Nat.le_of_ble_eq_true rfl) (Nat.le_of_ble_eq_true rfl) ?_
          rintro _ _ _ ⟨rfl, rfl, rfl⟩
          refine r_callV (M' := mX6_release) (pc := 125) (tX6_readCost.at 66 rfl) ml_X6_129 rfl mw_X6_release ⟨by decide, by decide⟩ (rdH_0) rfl rfl (c_release okt (by omega)) rfl rfl (Nat.le_of_ble_eq_true rfl) (Nat.le_of_ble_eq_true rfl) (Nat.le_of_ble_eq_true rfl) ?_
          rintro _ _ _ ⟨rfl, rfl, rfl⟩
          refine r_aload_n (pc := 128) (i := 0) (tX6_readCost.at 67 rfl) rfl rfl ?_
          refine r_aload_n (pc := 129) (i := 0) (tX6_readCost.at 68 rfl) rfl rfl ?_
          refine r_get (pc := 130) (tX6_readCost.at 69 rfl) gf_X6_35 (rdH_0) rfl ?_
          refine r_eq rfl (st2 := [.int (zI (R.take.rel (str R.take.kd)).kd), .ref q]) rfl ?_
          rw [hkd]
          refine r_callV (M' := mX6_postpone) (pc := 133) (tX6_readCost.at 70 rfl) ml_X6_119 rfl mw_X6_postpone ⟨by decide, by decide⟩ (rdH_0) rfl rfl (c_push okr) rfl rfl (Nat.le_of_ble_eq_true rfl) (Nat.le_of_ble_eq_true rfl) (Nat.le_of_ble_eq_true rfl) ?_
          rintro _ _ _ ⟨rfl, rfl, rfl⟩
          refine r_iconst (pc := 136) (w := nI 1) (tX6_readCost.at 71 rfl) (by decide) ?_
          refine r_istore_n (pc := 137) (i := 2) (tX6_readCost.at 72 rfl) rfl (by decide) ?_
          refine r_goto (pc := 138) 220 (tX6_readCost.at 73 rfl) (by decide) ?_
          first | refine r_iincN (pc := 220) (tX6_readCost.at 114 rfl) rfl (by decide) ?_ | refine r_iinc (pc := 220) (tX6_readCost.at 114 rfl) rfl rfl (by decide) ?_
          refine r_goto (pc := 223) 35 (tX6_readCost.at 115 rfl) (by decide) ?_
          exact ih (k + 1) nest true _ (by omega) (RD.push_ok okr kb) (by rw [gg.1]; exact hc) (by rw [gg.1]; exact he) (by have := gg.2.2.2.2; omega) (hxt.grw gg) hn (by rw [(RD.push_s (x := R.take.kd) (by omega)).1, (RD.push_s (x := R.take.kd) (by omega)).2]; exact i2) hE
  exact key ct 0 0 true R.beg (by omega) okb hct he (Nat.le_refl _) hk (by omega) (Or.inl rfl) hX

