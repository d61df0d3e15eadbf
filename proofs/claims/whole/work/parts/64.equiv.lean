/-! ===== divisions by an equivalence ===== -/
def eqv (p : Nat → Nat → Bool) (n : Nat) : Prop := (∀ a b c, a < b → b < c → c < n → p a b = true → p b c = true → p a c = true) ∧ (∀ a b c, a < b → b < c → c < n → p a b = true → p a c = true → p b c = true) ∧ ∀ a b c, a < b → b < c → c < n → p a c = true → p b c = true → p a b = true
theorem eqv.le {p : Nat → Nat → Bool} {n m : Nat} (h : eqv p n) (hm : m ≤ n) : eqv p m := ⟨fun a b c h1 h2 h3 => h.1 a b c h1 h2 (by omega), fun a b c h1 h2 h3 => h.2.1 a b c h1 h2 (by omega), fun a b c h1 h2 h3 => h.2.2 a b c h1 h2 (by omega)⟩
theorem eqv_qB (B : Nat → Nat) (n : Nat) : eqv (qB B) n :=
  ⟨fun _ _ _ _ _ _ h k => qB_t.mpr ((qB_t.mp h).trans (qB_t.mp k)), fun _ _ _ _ _ _ h k => qB_t.mpr ((qB_t.mp h).symm.trans (qB_t.mp k)), fun _ _ _ _ _ _ h k => qB_t.mpr ((qB_t.mp h).trans (qB_t.mp k).symm)⟩
theorem grp_iff {p : Nat → Nat → Bool} {F : Nat → Nat} : ∀ n, eqv p n → ∀ k j, k < j → j < n → ((grpL p F n).1 k = (grpL p F n).1 j ↔ p k j = true)
  | 0, _, k, j, _, h => by omega
  | n + 1, h, k, j, hkj, hj => by
    have ih := grp_iff (F := F) n (h.le (by omega))
    by_cases cj : j = n
    · subst cj
      rw [grp_old (x := j) hkj]
      obtain ⟨f1, f2, f3⟩ := fstN_spec (fun k => p k j) j
      by_cases c : fstN (fun k => p k j) j < j
      · have e1 : (grpL p F (j + 1)).1 j = (grpL p F j).1 (fstN (fun k => p k j) j) := by rw [grp_s, if_pos c]; exact upN_eq _ _ _
        have hp := f3 c
        rw [e1]
        generalize fstN (fun k => p k j) j = u at *
        rcases Nat.lt_trichotomy k u with q | q | q
        · rw [ih k u q c]
          have hf := f2 k q
          constructor
          · intro z
            exact h.1 k u j q c (by omega) z hp
          · intro z
            rw [z] at hf
            cases hf
        · subst q
          exact ⟨fun _ => hp, fun _ => rfl⟩
        · rw [eq_comm, ih u k q hkj]
          exact ⟨fun z => h.2.1 u k j q hkj (by omega) z hp, fun z => h.2.2 u k j q hkj (by omega) hp z⟩
      · have e1 : (grpL p F (j + 1)).1 j = (grpL p F j).2 := by rw [grp_s, if_neg c]; exact upN_eq _ _ _
        rw [e1]
        have := (grp_le p F j).2 k hkj
        have hf := f2 k (by omega)
        constructor
        · intro z; omega
        · intro z
          rw [z] at hf
          cases hf
    · rw [grp_old (by omega), grp_old (by omega)]
      exact ih k j hkj (by omega)
theorem nmG_grp {p : Nat → Nat → Bool} {F B : Nat → Nat} {n : Nat} (h : eqv p n) (hB : ∀ k, k < n → B k = (grpL p F n).1 k) : nmG B n = grpL p (fun _ => 0) n := by
  refine grp_cong n (fun k j hk hj => ?_)
  have e := grp_iff (F := F) n h k j hk hj
  rw [← hB k (by omega), ← hB j hj] at e
  cases q : p k j with
  | true => exact qB_t.mpr (e.mpr q)
  | false =>
    cases q2 : qB B k j with
    | false => rfl
    | true =>
      have := e.mp (qB_t.mp q2)
      rw [q] at this
      cases this
/-- the blocks are numbered as they should be -/
def canB (G : GT) : Prop := G.b = (nmG G.B G.n).2 ∧ ∀ k, k < G.n → G.B k = (nmG G.B G.n).1 k
theorem canB.bk {G : GT} (h : canB G) : bkM G.B G.n = G.b := by
  rw [h.1]
  refine Eq.trans ?_ (grp_bk (p := qB G.B) (F := fun _ => 0) G.n).1
  exact bkM_cong G.n h.2
theorem canB.ex {G : GT} (h : canB G) : ∀ b, b < G.b → ∃ k, k < G.n ∧ G.B k = b := by
  intro b hb
  rw [h.1] at hb
  obtain ⟨k, hk, e⟩ := (grp_bk (p := qB G.B) (F := fun _ => 0) G.n).2 b hb
  exact ⟨k, hk, by rw [h.2 k hk]; exact e⟩
theorem canB.lt {G : GT} (h : canB G) : ∀ k, k < G.n → G.B k < G.b := by
  intro k hk
  rw [h.2 k hk, h.1]
  exact (grp_le _ _ G.n).2 k hk
theorem canB.b6 {G : GT} (h : canB G) (hn : G.n ≤ 6) : G.b ≤ 6 := by
  have := (grp_le (qB G.B) (fun _ => 0) G.n).1
  rw [h.1]
  unfold nmG
  omega
theorem canB_of {G : GT} {p : Nat → Nat → Bool} {F : Nat → Nat} (h : eqv p G.n) (hB : ∀ k, k < G.n → G.B k = (grpL p F G.n).1 k) (hb : G.b = (grpL p F G.n).2) : canB G := by
  have e := nmG_grp h hB
  have e2 := grpL_ind p F (fun _ => 0) G.n
  exact ⟨by rw [e, hb, e2.1], fun k hk => by rw [e, hB k hk, e2.2 k hk]⟩
theorem GT.num_can {G : GT} : canB G.num := canB_of (p := qB G.B) (F := G.B) (G := G.num) (eqv_qB _ _) (fun k hk => by
  show (numL G.B G.n).1 k = _
  rw [numL_grp]
  rfl) (by
  show (numL G.B G.n).2 = _
  rw [numL_grp]
  rfl)
/-! the vertices that stay together -/
theorem mul_tr {a b c x y z : Nat} (hy : 0 < y) (h1 : a * y = b * x) (h2 : b * z = c * y) : a * z = c * x := by
  refine Nat.eq_of_mul_eq_mul_right hy ?_
  rw [Nat.mul_right_comm, h1, Nat.mul_right_comm, h2, Nat.mul_right_comm]
def eqD (W B : Nat → Nat) (n nb x y : Nat) : Prop := ∀ b, b < nb → b ≠ B x → wto W B n x b * dg1 W n y = wto W B n y b * dg1 W n x
theorem dfB_t {W B : Nat → Nat} {n x y b : Nat} : dfB W B n x y b = true ↔ b ≠ B x ∧ wto W B n x b * dg1 W n y ≠ wto W B n y b * dg1 W n x := by
  unfold dfB
  rw [Bool.and_eq_true, decide_eq_true_iff, decide_eq_true_iff]
theorem stw_iff {W B : Nat → Nat} {n nb x y : Nat} : stw W B n nb x y = true ↔ B x = B y ∧ eqD W B n nb x y := by
  unfold stw eqD
  rw [Bool.and_eq_true, decide_eq_true_iff, Bool.not_eq_true', decide_eq_false_iff_not]
  obtain ⟨f1, f2, f3⟩ := fstN_spec (dfB W B n x y) nb
  refine and_congr_right (fun _ => ?_)
  constructor
  · intro h b hb hbx
    have := f2 b (by unfold fdN at h; omega)
    unfold dfB at this
    simpa [hbx] using this
  · intro h z
    obtain ⟨u1, u2⟩ := dfB_t.mp (f3 z)
    exact u2 (h _ z u1)
theorem dg1_pos (W : Nat → Nat) (n x : Nat) : 0 < dg1 W n x := by
  unfold dg1
  omega
theorem eqv_stw (W B : Nat → Nat) (n nb m : Nat) : eqv (stw W B n nb) m := by
  refine ⟨fun a b c _ _ _ h k => ?_, fun a b c _ _ _ h k => ?_, fun a b c _ _ _ h k => ?_⟩
  · obtain ⟨h1, h2⟩ := stw_iff.mp h
    obtain ⟨k1, k2⟩ := stw_iff.mp k
    exact stw_iff.mpr ⟨h1.trans k1, fun d hd hda => mul_tr (dg1_pos W n b) (h2 d hd hda) (k2 d hd (by rw [← h1]; exact hda))⟩
  · obtain ⟨h1, h2⟩ := stw_iff.mp h
    obtain ⟨k1, k2⟩ := stw_iff.mp k
    exact stw_iff.mpr ⟨h1.symm.trans k1, fun d hd hda => mul_tr (dg1_pos W n a) (h2 d hd (by rw [h1]; exact hda)).symm (k2 d hd (by rw [h1]; exact hda))⟩
  · obtain ⟨h1, h2⟩ := stw_iff.mp h
    obtain ⟨k1, k2⟩ := stw_iff.mp k
    exact stw_iff.mpr ⟨h1.trans k1.symm, fun d hd hda => mul_tr (dg1_pos W n c) (h2 d hd hda) (k2 d hd (by rw [k1, ← h1]; exact hda)).symm⟩
/-- the labels of the reference's dividing -/
def dvL (p : Nat → Nat → Bool) : Nat → Nat := fun x => fstN (fun u => p u x) x
theorem dvL_grp {p : Nat → Nat → Bool} {n : Nat} (h : eqv p n) : nmG (dvL p) n = grpL p (fun _ => 0) n := by
  refine grp_cong n (fun k j hk hj => ?_)
  obtain ⟨a1, a2, a3⟩ := fstN_spec (fun u => p u k) k
  obtain ⟨c1, c2, c3⟩ := fstN_spec (fun u => p u j) j
  cases q : p k j with
  | true =>
    refine qB_t.mpr ?_
    obtain ⟨d1, d2⟩ := fst_t (p := fun u => p u j) hk q
    show fstN (fun u => p u k) k = fstN (fun u => p u j) j
    generalize fstN (fun u => p u k) k = a at *
    generalize fstN (fun u => p u j) j = c at *
    have l1 : a ≤ c := by
      rcases Nat.lt_or_ge c a with z | z
      · have hck : c < k := by omega
        have e1 : p c k = true := h.2.2 c k j hck hk hj d2 q
        have := a2 c z
        rw [e1] at this
        cases this
      · exact z
    have l2 : c ≤ a := by
      rcases Nat.lt_or_ge a c with z | z
      · have hak : a < k := by omega
        have e1 : p a j = true := h.1 a k j hak hk hj (a3 hak) q
        have := c2 a z
        rw [e1] at this
        cases this
      · exact z
    omega
  | false =>
    cases q2 : qB (dvL p) k j with
    | false => rfl
    | true =>
      have e : fstN (fun u => p u k) k = fstN (fun u => p u j) j := qB_t.mp q2
      rw [e] at a1 a2 a3
      generalize fstN (fun u => p u j) j = c at *
      have hcj : p c j = true := c3 (by omega)
      by_cases z : c = k
      · rw [z, q] at hcj
        cases hcj
      · have hck := a3 (by omega)
        have := h.2.1 c k j (by omega) hk hj hck hcj
        rw [q] at this
        cases this
/-! dividing makes more blocks -/
def cnL (q : Nat → Bool) : Nat → Nat
  | 0 => 0
  | n + 1 => if q n = true then cnL q n + 1 else cnL q n
theorem cnL_le {q r : Nat → Bool} : ∀ n, (∀ x, x < n → q x = true → r x = true) → cnL q n ≤ cnL r n
  | 0, _ => Nat.le_refl _
  | n + 1, h => by
    have ih := cnL_le n (fun x hx => h x (by omega))
    have := h n (by omega)
    rw [cnL, cnL]
    by_cases c : q n = true
    · rw [if_pos c, if_pos (this c)]
      omega
    · rw [if_neg c]
      split <;> omega
theorem cnL_lt {q r : Nat → Bool} {w : Nat} : ∀ n, w < n → (∀ x, x < n → q x = true → r x = true) → q w = false → r w = true → cnL q n < cnL r n
  | 0, h, _, _, _ => by omega
  | n + 1, h, h1, h2, h3 => by
    rw [cnL, cnL]
    by_cases c : w = n
    · subst c
      have := cnL_le w (fun x hx => h1 x (by omega))
      rw [h2, if_neg (by simp), if_pos h3]
      omega
    · have ih := cnL_lt n (by omega) (fun x hx => h1 x (by omega)) h2 h3
      have := h1 n (by omega)
      by_cases d : q n = true
      · rw [if_pos d, if_pos (this d)]
        omega
      · rw [if_neg d]
        split <;> omega
def ldr (p : Nat → Nat → Bool) : Nat → Bool := fun x => decide (¬ fstN (fun k => p k x) x < x)
theorem grp_cnt {p : Nat → Nat → Bool} {F : Nat → Nat} : ∀ n, (grpL p F n).2 = cnL (ldr p) n
  | 0 => rfl
  | n + 1 => by
    have ih := grp_cnt (p := p) (F := F) n
    rw [grp_s, cnL]
    by_cases c : fstN (fun k => p k n) n < n
    · rw [if_pos c, if_neg (by unfold ldr; simp [c])]
      exact ih
    · rw [if_neg c, if_pos (by unfold ldr; simp; omega)]
      show _ + 1 = _
      rw [ih]
theorem ldr_t {p : Nat → Nat → Bool} {x : Nat} : ldr p x = true ↔ ∀ k, k < x → p k x = false := by
  obtain ⟨f1, f2, f3⟩ := fstN_spec (fun k => p k x) x
  unfold ldr
  rw [decide_eq_true_iff]
  constructor
  · intro h k hk
    exact f2 k (by omega)
  · intro h z
    have h2 : p (fstN (fun k => p k x) x) x = true := f3 z
    rw [h _ z] at h2
    cases h2
theorem dvd_more {G : GT} (h : canB G) (hp : ptB G = true) : G.b < G.dvd.b := by
  have hx : pqX G.W G.B G.n G.b < G.n := of_decide_eq_true hp
  obtain ⟨-, -, f3⟩ := fstN_spec (fun x => decide (pqY G.W G.B G.n G.b x < G.n)) G.n
  have hy : pqY G.W G.B G.n G.b (pqX G.W G.B G.n G.b) < G.n := of_decide_eq_true (f3 hx)
  generalize pqX G.W G.B G.n G.b = x at hx hy
  obtain ⟨-, -, g3⟩ := fstN_spec (pqB G.W G.B G.n G.b x) G.n
  have hpq := g3 hy
  rw [show fstN (pqB G.W G.B G.n G.b x) G.n = pqY G.W G.B G.n G.b x from rfl] at hpq
  generalize pqY G.W G.B G.n G.b x = y at hy hpq
  unfold pqB at hpq
  rw [Bool.and_eq_true, Bool.and_eq_true, decide_eq_true_iff, decide_eq_true_iff, decide_eq_true_iff] at hpq
  obtain ⟨hxy, hBxy, hfd⟩ := hpq
  have hns : stw G.W G.B G.n G.b x y = false := by unfold stw; simp [hfd]
  have ev := eqv_stw G.W G.B G.n G.b G.n
  -- the first one of the block
  obtain ⟨l1, l2, l3⟩ := fstN_spec (fun k => decide (G.B k = G.B x)) G.n
  obtain ⟨m1, m2⟩ := fst_t (p := fun k => decide (G.B k = G.B x)) (n := G.n) hx (decide_eq_true rfl)
  generalize hl : fstN (fun k => decide (G.B k = G.B x)) G.n = l at l1 l2 l3 m1 m2
  have hBl : G.B l = G.B x := of_decide_eq_true m2
  -- one of the block that doesn't stay with it
  have hw0 : ∃ w, w < G.n ∧ l < w ∧ G.B w = G.B x ∧ stw G.W G.B G.n G.b l w = false := by
    by_cases c : l = x
    · exact ⟨y, hy, by omega, hBxy.symm, by rw [c]; exact hns⟩
    · cases q : stw G.W G.B G.n G.b l x with
      | false => exact ⟨x, hx, by omega, rfl, q⟩
      | true =>
        cases q2 : stw G.W G.B G.n G.b l y with
        | false => exact ⟨y, hy, by omega, hBxy.symm, q2⟩
        | true =>
          have := ev.2.1 l x y (by omega) hxy hy q q2
          rw [hns] at this
          cases this
  obtain ⟨w0, a1, a2, a3, a4⟩ := hw0
  obtain ⟨b1, b2, b3⟩ := fstN_spec (fun w => decide (l < w ∧ G.B w = G.B x) && !stw G.W G.B G.n G.b l w) G.n
  obtain ⟨c1, c2⟩ := fst_t (p := fun w => decide (l < w ∧ G.B w = G.B x) && !stw G.W G.B G.n G.b l w) (n := G.n) a1 (by simp [a2, a3, a4])
  generalize fstN (fun w => decide (l < w ∧ G.B w = G.B x) && !stw G.W G.B G.n G.b l w) G.n = w at *
  rw [Bool.and_eq_true, decide_eq_true_iff, Bool.not_eq_true'] at c2
  obtain ⟨⟨d1, d2⟩, d3⟩ := c2
  have e1 : G.dvd.b = cnL (ldr (stw G.W G.B G.n G.b)) G.n := grp_cnt (p := G.sw) (F := fun _ => 0) G.n
  have e2 : G.b = cnL (ldr (qB G.B)) G.n := h.1.trans (grp_cnt G.n)
  suffices hh : cnL (ldr (qB G.B)) G.n < cnL (ldr (stw G.W G.B G.n G.b)) G.n by omega
  refine cnL_lt (w := w) G.n (by omega) (fun z hz hq => ?_) ?_ ?_
  · rw [ldr_t] at hq ⊢
    intro k hk
    have := hq k hk
    cases q : stw G.W G.B G.n G.b k z with
    | false => rfl
    | true =>
      rw [qB_t.mpr (stw_iff.mp q).1] at this
      cases this
  · cases q : ldr (qB G.B) w with
    | false => rfl
    | true =>
      have := (ldr_t.mp q) l d1
      rw [qB_t.mpr (hBl.trans d2.symm)] at this
      cases this
  · rw [ldr_t]
    intro u hu
    cases q : stw G.W G.B G.n G.b u w with
    | false => rfl
    | true =>
      exfalso
      have hBu : G.B u = G.B x := (stw_iff.mp q).1.trans d2
      have hlu : l ≤ u := by
        rcases Nat.lt_or_ge u l with z | z
        · have := l2 u z
          rw [decide_eq_true hBu] at this
          cases this
        · exact z
      by_cases z : u = l
      · rw [z, d3] at q
        cases q
      · have hb := b2 u hu
        have hsu : stw G.W G.B G.n G.b l u = true := by
          cases q3 : stw G.W G.B G.n G.b l u with
          | true => rfl
          | false =>
            rw [q3, decide_eq_true ⟨by omega, hBu⟩] at hb
            cases hb
        have := ev.1 l u w (by omega) hu (by omega) hsu q
        rw [d3] at this
        cases this

