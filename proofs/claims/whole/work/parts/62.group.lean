/-! ===== numberings ===== -/
def qB (B : Nat → Nat) : Nat → Nat → Bool := fun k x => B k == B x
theorem qB_t {B : Nat → Nat} {k x : Nat} : qB B k x = true ↔ B k = B x := by
  unfold qB
  exact beq_iff_eq
/-- the numbers of labels -/
def nmG (B : Nat → Nat) (n : Nat) : (Nat → Nat) × Nat := grpL (qB B) (fun _ => 0) n
theorem grp_s {p : Nat → Nat → Bool} {F : Nat → Nat} {x : Nat} : grpL p F (x + 1) = if fstN (fun k => p k x) x < x then (upN (grpL p F x).1 x ((grpL p F x).1 (fstN (fun k => p k x) x)), (grpL p F x).2) else (upN (grpL p F x).1 x (grpL p F x).2, (grpL p F x).2 + 1) := rfl
/-- what two steps have in common -/
theorem grp_old {p : Nat → Nat → Bool} {F : Nat → Nat} {x k : Nat} (h : k < x) : (grpL p F (x + 1)).1 k = (grpL p F x).1 k := by
  rw [grp_s]
  split
  · exact upN_ne _ _ (by omega)
  · exact upN_ne _ _ (by omega)
theorem grp_cong {p q : Nat → Nat → Bool} {F : Nat → Nat} : ∀ x, (∀ k y, k < y → y < x → p k y = q k y) → grpL p F x = grpL q F x
  | 0, _ => rfl
  | x + 1, h => by
    have ih := grp_cong (F := F) x (fun k y hk hy => h k y hk (by omega))
    have e : ∀ u, u ≤ x → fstN (fun k => p k x) u = fstN (fun k => q k x) u := by
      intro u
      induction u with
      | zero => intro _; rfl
      | succ u ih =>
        intro hu
        rw [fstN, fstN, ih (by omega), h u x (by omega) (by omega)]
    rw [grp_s, grp_s, ih, e x (Nat.le_refl _)]
theorem fst_t {p : Nat → Bool} {n k : Nat} (hk : k < n) (h : p k = true) : fstN p n ≤ k ∧ p (fstN p n) = true := by
  obtain ⟨h1, h2, h3⟩ := fstN_spec p n
  have : fstN p n ≤ k := by
    rcases Nat.lt_or_ge k (fstN p n) with q | q
    · rw [h2 k q] at h
      cases h
    · exact q
  exact ⟨this, h3 (by omega)⟩
theorem grp_same {B : Nat → Nat} {F : Nat → Nat} : ∀ x k j, k < x → j < x → B k = B j → (grpL (qB B) F x).1 k = (grpL (qB B) F x).1 j
  | 0, k, j, h, _, _ => by omega
  | x + 1, k, j, hk, hj, e => by
    have key : ∀ j, j < x → B j = B x → (grpL (qB B) F (x + 1)).1 x = (grpL (qB B) F (x + 1)).1 j := by
      intro j hj e
      obtain ⟨h1, h2⟩ := fst_t (p := fun k => qB B k x) hj (qB_t.mpr e)
      rw [grp_old hj, grp_s, if_pos (by omega)]
      show upN _ x _ x = _
      rw [upN_eq]
      exact grp_same x _ j (by omega) hj ((qB_t.mp h2).trans e.symm)
    by_cases ck : k = x
    · by_cases cj : j = x
      · rw [ck, cj]
      · rw [ck]
        exact key j (by omega) (by rw [← e, ck])
    · by_cases cj : j = x
      · rw [cj]
        exact (key k (by omega) (by rw [e, cj])).symm
      · rw [grp_old (by omega), grp_old (by omega)]
        exact grp_same x k j (by omega) (by omega) e
theorem itM_c {B F : Nat → Nat} {x c : Nat} : ∀ u, (∀ k, k < u → B k = B x → F k = c) → (∃ k, k < u ∧ B k = B x) → itM B F x u = (c : Nat)
  | 0, _, h => by
    obtain ⟨k, hk, -⟩ := h
    omega
  | u + 1, h1, h2 => by
    rw [itM]
    by_cases e : B u = B x
    · rw [if_pos e, h1 u (by omega) e]
    · rw [if_neg e]
      refine itM_c u (fun k hk => h1 k (by omega)) ?_
      obtain ⟨k, hk, hkx⟩ := h2
      refine ⟨k, ?_, hkx⟩
      by_cases q : k = u
      · rw [q] at hkx
        exact absurd hkx e
      · omega
theorem itM_n {B F : Nat → Nat} {x : Nat} : ∀ u, (∀ k, k < u → B k ≠ B x) → itM B F x u = -1
  | 0, _ => rfl
  | u + 1, h => by rw [itM, if_neg (h u (by omega)), itM_n u (fun k hk => h k (by omega))]
theorem nuM_grp {B F : Nat → Nat} : ∀ x, (nuM B F x).2 = (nmG B x).2 ∧ ∀ k, k < x → (nuM B F x).1 k = (nmG B x).1 k
  | 0 => ⟨rfl, fun k hk => by omega⟩
  | x + 1 => by
    obtain ⟨h1, h2⟩ := nuM_grp (B := B) (F := F) x
    unfold nmG at *
    rw [grp_s, nuM]
    by_cases c : fstN (fun k => qB B k x) x < x
    · obtain ⟨-, -, g3⟩ := fstN_spec (fun k => qB B k x) x
      have hf := qB_t.mp (g3 c)
      have e : itM B (nuM B F x).1 x x = ((grpL (qB B) (fun _ => 0) x).1 (fstN (fun k => qB B k x) x) : Nat) := itM_c x (fun k hk hkx => by rw [h2 k hk]; exact grp_same x k _ hk c (by rw [hkx, hf])) ⟨_, c, hf⟩
      rw [e, if_neg (by omega), if_pos c, Int.toNat_natCast]
      refine ⟨h1, fun k hk => ?_⟩
      show upN _ x _ k = upN _ x _ k
      by_cases q : k = x
      · rw [q, upN_eq, upN_eq]
      · rw [upN_ne _ _ q, upN_ne _ _ q]
        exact h2 k (by omega)
    · have hn : ∀ k, k < x → B k ≠ B x := fun k hk z => c (by have := (fst_t (p := fun k => qB B k x) hk (qB_t.mpr z)).1; omega)
      rw [itM_n x hn, if_pos rfl, if_neg c]
      refine ⟨by show _ + 1 = _ + 1; rw [h1], fun k hk => ?_⟩
      show upN _ x _ k = upN _ x _ k
      by_cases q : k = x
      · rw [q, upN_eq, upN_eq, h1]
      · rw [upN_ne _ _ q, upN_ne _ _ q]
        exact h2 k (by omega)
theorem numL_grp {B : Nat → Nat} : ∀ x, numL B x = grpL (qB B) B x
  | 0 => rfl
  | x + 1 => by
    rw [numL, grp_s, numL_grp x]
    rfl
theorem numL_nm {B : Nat → Nat} (n : Nat) : (numL B n).2 = (nmG B n).2 ∧ ∀ k, k < n → (numL B n).1 k = (nmG B n).1 k := by
  rw [numL_grp]
  exact grpL_ind _ _ _ n
theorem grp_bk {p : Nat → Nat → Bool} {F : Nat → Nat} : ∀ n, bkM (grpL p F n).1 n = (grpL p F n).2 ∧ ∀ b, b < (grpL p F n).2 → ∃ k, k < n ∧ (grpL p F n).1 k = b
  | 0 => ⟨rfl, fun b hb => by
      have : b < 0 := hb
      omega⟩
  | n + 1 => by
    obtain ⟨h1, h2⟩ := grp_bk (p := p) (F := F) n
    have h3 : bkM (grpL p F (n + 1)).1 n = (grpL p F n).2 := by
      rw [← h1]
      exact bkM_cong n (fun k hk => grp_old hk)
    have h4 : ∀ b, b < (grpL p F n).2 → ∃ k, k < n + 1 ∧ (grpL p F (n + 1)).1 k = b := by
      intro b hb
      obtain ⟨k, hk, e⟩ := h2 b hb
      exact ⟨k, by omega, by rw [grp_old hk]; exact e⟩
    rw [bkM, h3]
    by_cases c : fstN (fun k => p k n) n < n
    · have hlt : (grpL p F n).1 (fstN (fun k => p k n) n) + 1 ≤ (grpL p F n).2 := by
        rw [← h1]
        have : ∀ m, fstN (fun k => p k n) n < m → (grpL p F n).1 (fstN (fun k => p k n) n) + 1 ≤ bkM (grpL p F n).1 m := by
          intro m
          induction m with
          | zero => intro z; omega
          | succ m ih =>
            intro z
            rw [bkM]
            by_cases q : fstN (fun k => p k n) n = m
            · rw [q]; omega
            · have := ih (by omega)
              omega
        exact this n c
      have e2 : (grpL p F (n + 1)).2 = (grpL p F n).2 := by rw [grp_s, if_pos c]
      have e1 : (grpL p F (n + 1)).1 n = (grpL p F n).1 (fstN (fun k => p k n) n) := by rw [grp_s, if_pos c]; exact upN_eq _ _ _
      rw [e1, e2]
      exact ⟨by omega, h4⟩
    · have e2 : (grpL p F (n + 1)).2 = (grpL p F n).2 + 1 := by rw [grp_s, if_neg c]
      have e1 : (grpL p F (n + 1)).1 n = (grpL p F n).2 := by rw [grp_s, if_neg c]; exact upN_eq _ _ _
      rw [e1, e2]
      refine ⟨by omega, fun b hb => ?_⟩
      by_cases q : b = (grpL p F n).2
      · exact ⟨n, by omega, by rw [e1, q]⟩
      · exact h4 b (by omega)
theorem grp_le (p : Nat → Nat → Bool) (F : Nat → Nat) : ∀ n, (grpL p F n).2 ≤ n ∧ ∀ k, k < n → (grpL p F n).1 k < (grpL p F n).2
  | 0 => ⟨Nat.le_refl _, fun k hk => by omega⟩
  | n + 1 => by
    obtain ⟨h1, h2⟩ := grp_le p F n
    by_cases c : fstN (fun k => p k n) n < n
    · have e2 : (grpL p F (n + 1)).2 = (grpL p F n).2 := by rw [grp_s, if_pos c]
      have e1 : (grpL p F (n + 1)).1 n = (grpL p F n).1 (fstN (fun k => p k n) n) := by rw [grp_s, if_pos c]; exact upN_eq _ _ _
      rw [e2]
      refine ⟨by omega, fun k hk => ?_⟩
      by_cases q : k = n
      · rw [q, e1]; exact h2 _ c
      · rw [grp_old (by omega)]; exact h2 k (by omega)
    · have e2 : (grpL p F (n + 1)).2 = (grpL p F n).2 + 1 := by rw [grp_s, if_neg c]
      have e1 : (grpL p F (n + 1)).1 n = (grpL p F n).2 := by rw [grp_s, if_neg c]; exact upN_eq _ _ _
      rw [e2]
      refine ⟨by omega, fun k hk => ?_⟩
      by_cases q : k = n
      · rw [q, e1]; omega
      · rw [grp_old (by omega)]; have := h2 k (by omega); omega
theorem nuM_cong {B B2 F : Nat → Nat} : ∀ n, (∀ k, k < n → B k = B2 k) → nuM B F n = nuM B2 F n
  | 0, _ => rfl
  | n + 1, h => by
    have e : ∀ F u, u ≤ n → itM B F n u = itM B2 F n u := by
      intro F u
      induction u with
      | zero => intro _; rfl
      | succ u ih =>
        intro hu
        rw [itM, itM, ih (by omega), h u (by omega), h n (by omega)]
    rw [nuM, nuM, nuM_cong n (fun k hk => h k (by omega)), e _ n (Nat.le_refl _)]
/-! changes of the reference's row -/
def chd (S S' : MS) (f : Nat → Nat) : Prop := (S'.byt = S.byt ∧ S'.eat = S.eat ∧ S'.txt = S.txt) ∧ S'.now = (S.now + 1) % 9 ∧ S'.und = (if S.und < 8 then S.und + 1 else S.und) ∧ (∀ k, k < 1240 → S'.rw k = f k) ∧ ∀ r k, r < 9 → k < 1240 → r ≠ (S.now + 1) % 9 → S'.rws (1240 * r + k) = S.rws (1240 * r + k)
theorem chd_chg {S S1 : MS} (hn : S.now < 9) (p : per S S1) : chd S S1.chg S.rw := by
  obtain ⟨⟨p1, p2, p3, p4⟩, p5, p6⟩ := p
  refine ⟨⟨p3, p4, p6⟩, ?_, ?_, fun k hk => ?_, fun r k hr hk hne => ?_⟩
  · show (S1.now + 1) % 9 = _
    rw [p1]
  · show (if S1.und < 8 then S1.und + 1 else S1.und) = _
    rw [p2]
  · show chR S1.rws S1.now 1240 (1240 * ((S1.now + 1) % 9) + k) = S.rws (1240 * S.now + k)
    unfold chR
    rw [if_pos (by omega), p5, p1]
    congr 1
    omega
  · show chR S1.rws S1.now 1240 (1240 * r + k) = S.rws (1240 * r + k)
    unfold chR
    rw [p1, p5, if_neg (by omega)]
theorem chd.put {S S' : MS} {f : Nat → Nat} {k y : Nat} (hn : S.now < 9) (c : chd S S' f) (hk : k < 1240) : chd S (S'.s_rw k y) (upN f k y) := by
  obtain ⟨c1, c2, c3, c4, c5⟩ := c
  refine ⟨c1, c2, c3, fun j hj => ?_, fun r j hr hj hne => ?_⟩
  · show upN S'.rws (1240 * S'.now + k) y (1240 * S'.now + j) = _
    unfold upN
    by_cases q : j = k
    · rw [q, if_pos rfl, if_pos rfl]
    · rw [if_neg (by omega), if_neg q]
      exact c4 j hj
  · show upN S'.rws (1240 * S'.now + k) y (1240 * r + j) = _
    rw [upN_ne _ _ (by rw [c2]; omega)]
    exact c5 r j hr hj hne
theorem chd.scr {S S' S2 : MS} {f : Nat → Nat} (c : chd S S' f) (p : per S' S2) : chd S S2 f := by
  obtain ⟨⟨a1, a2, a3⟩, c2, c3, c4, c5⟩ := c
  refine ⟨⟨p.1.2.2.1.trans a1, p.1.2.2.2.trans a2, p.2.2.trans a3⟩, p.1.1.trans c2, p.1.2.1.trans c3, fun k hk => (p.rw k).trans (c4 k hk), fun r k hr hk hne => ?_⟩
  rw [p.2.1]
  exact c5 r k hr hk hne
theorem chd.f {S S' : MS} {f g : Nat → Nat} (c : chd S S' f) (h : ∀ k, k < 1240 → f k = g k) : chd S S' g := ⟨c.1, c.2.1, c.2.2.1, fun k hk => (c.2.2.2.1 k hk).trans (h k hk), c.2.2.2.2⟩
/-- the row with its labels numbered -/
def nbF (f : Nat → Nat) : Nat → Nat := fun k => if 49 ≤ k ∧ k < 49 + f 0 then (nmG (fun j => f (49 + j)) (f 0)).1 (k - 49) else f k
theorem chd.nmb {S S' : MS} {f : Nat → Nat} (hn : S.now < 9) (c : chd S S' f) (h6 : f 0 ≤ 6) : chd S S'.nmb (nbF f) := by
  obtain ⟨c1, c2, c3, c4, c5⟩ := c
  have e0 : S'.rw 0 = f 0 := c4 0 (by omega)
  have eL : ∀ F, nuM S'.lab F (f 0) = nuM (fun j => f (49 + j)) F (f 0) := fun F => nuM_cong _ (fun k hk => c4 (49 + k) (by omega))
  refine ⟨c1, c2, c3, fun j hj => ?_, fun r j hr hj hne => ?_⟩
  · show lbW S'.rws S'.now (nuM S'.lab S'.fsh (S'.rw 0)).1 (S'.rw 0) (1240 * S'.now + j) = _
    rw [e0, eL]
    unfold lbW nbF
    by_cases q : 49 ≤ j ∧ j < 49 + f 0
    · rw [if_pos (by omega), if_pos q, show 1240 * S'.now + j - (1240 * S'.now + 49) = j - 49 by omega]
      exact (nuM_grp (f 0)).2 _ (by omega)
    · rw [if_neg (by omega), if_neg q]
      exact c4 j hj
  · show lbW S'.rws S'.now (nuM S'.lab S'.fsh (S'.rw 0)).1 (S'.rw 0) (1240 * r + j) = _
    rw [e0]
    unfold lbW
    rw [c2, if_neg (by omega)]
    exact c5 r j hr hj hne

