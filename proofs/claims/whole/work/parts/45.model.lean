/-! ===== the reference: its cells ===== -/
/-- ((thrown, now, undoable), (bytes, errorAt), (size, next, error, place), (began, nested, hasCost), (above, below), unknowns, blocks) -/
abbrev MSc : Type := (Nat × Nat × Nat) × (Nat × Int) × (Nat × Nat × Int × Nat) × (Nat × Nat × Nat) × (Int × Int) × Nat × Nat
/-- (rows, read, text), (weights, costs, degrees), (pile, matrix, square), (places, fresh), (chances, then) -/
abbrev MAr : Type := ((Nat → Nat) × (Nat → Nat) × (Nat → Nat)) × ((Nat → Nat) × (Nat → Nat) × (Nat → Nat)) × ((Nat → Int) × (Nat → Int) × (Nat → Int)) × ((Nat → Int) × (Nat → Nat)) × (Nat → UInt32) × (Nat → UInt32)
abbrev MS : Type := MSc × MAr
def MS.thr (S : MS) : Nat := S.1.1.1
def MS.now (S : MS) : Nat := S.1.1.2.1
def MS.und (S : MS) : Nat := S.1.1.2.2
def MS.byt (S : MS) : Nat := S.1.2.1.1
def MS.eat (S : MS) : Int := S.1.2.1.2
def MS.siz (S : MS) : Nat := S.1.2.2.1.1
def MS.nxt (S : MS) : Nat := S.1.2.2.1.2.1
def MS.err (S : MS) : Int := S.1.2.2.1.2.2.1
def MS.plc (S : MS) : Nat := S.1.2.2.1.2.2.2
def MS.beg (S : MS) : Nat := S.1.2.2.2.1.1
def MS.nst (S : MS) : Nat := S.1.2.2.2.1.2.1
def MS.hco (S : MS) : Nat := S.1.2.2.2.1.2.2
def MS.abv (S : MS) : Int := S.1.2.2.2.2.1.1
def MS.blw (S : MS) : Int := S.1.2.2.2.2.1.2
def MS.unk (S : MS) : Nat := S.1.2.2.2.2.2.1
def MS.blk (S : MS) : Nat := S.1.2.2.2.2.2.2
def MS.s_thr (S : MS) (y : Nat) : MS := (((y, S.now, S.und), (S.byt, S.eat), (S.siz, S.nxt, S.err, S.plc), (S.beg, S.nst, S.hco), (S.abv, S.blw), S.unk, S.blk), S.2)
def MS.s_now (S : MS) (y : Nat) : MS := (((S.thr, y, S.und), (S.byt, S.eat), (S.siz, S.nxt, S.err, S.plc), (S.beg, S.nst, S.hco), (S.abv, S.blw), S.unk, S.blk), S.2)
def MS.s_und (S : MS) (y : Nat) : MS := (((S.thr, S.now, y), (S.byt, S.eat), (S.siz, S.nxt, S.err, S.plc), (S.beg, S.nst, S.hco), (S.abv, S.blw), S.unk, S.blk), S.2)
def MS.s_byt (S : MS) (y : Nat) : MS := (((S.thr, S.now, S.und), (y, S.eat), (S.siz, S.nxt, S.err, S.plc), (S.beg, S.nst, S.hco), (S.abv, S.blw), S.unk, S.blk), S.2)
def MS.s_eat (S : MS) (y : Int) : MS := (((S.thr, S.now, S.und), (S.byt, y), (S.siz, S.nxt, S.err, S.plc), (S.beg, S.nst, S.hco), (S.abv, S.blw), S.unk, S.blk), S.2)
def MS.s_siz (S : MS) (y : Nat) : MS := (((S.thr, S.now, S.und), (S.byt, S.eat), (y, S.nxt, S.err, S.plc), (S.beg, S.nst, S.hco), (S.abv, S.blw), S.unk, S.blk), S.2)
def MS.s_nxt (S : MS) (y : Nat) : MS := (((S.thr, S.now, S.und), (S.byt, S.eat), (S.siz, y, S.err, S.plc), (S.beg, S.nst, S.hco), (S.abv, S.blw), S.unk, S.blk), S.2)
def MS.s_err (S : MS) (y : Int) : MS := (((S.thr, S.now, S.und), (S.byt, S.eat), (S.siz, S.nxt, y, S.plc), (S.beg, S.nst, S.hco), (S.abv, S.blw), S.unk, S.blk), S.2)
def MS.s_plc (S : MS) (y : Nat) : MS := (((S.thr, S.now, S.und), (S.byt, S.eat), (S.siz, S.nxt, S.err, y), (S.beg, S.nst, S.hco), (S.abv, S.blw), S.unk, S.blk), S.2)
def MS.s_beg (S : MS) (y : Nat) : MS := (((S.thr, S.now, S.und), (S.byt, S.eat), (S.siz, S.nxt, S.err, S.plc), (y, S.nst, S.hco), (S.abv, S.blw), S.unk, S.blk), S.2)
def MS.s_nst (S : MS) (y : Nat) : MS := (((S.thr, S.now, S.und), (S.byt, S.eat), (S.siz, S.nxt, S.err, S.plc), (S.beg, y, S.hco), (S.abv, S.blw), S.unk, S.blk), S.2)
def MS.s_hco (S : MS) (y : Nat) : MS := (((S.thr, S.now, S.und), (S.byt, S.eat), (S.siz, S.nxt, S.err, S.plc), (S.beg, S.nst, y), (S.abv, S.blw), S.unk, S.blk), S.2)
def MS.s_abv (S : MS) (y : Int) : MS := (((S.thr, S.now, S.und), (S.byt, S.eat), (S.siz, S.nxt, S.err, S.plc), (S.beg, S.nst, S.hco), (y, S.blw), S.unk, S.blk), S.2)
def MS.s_blw (S : MS) (y : Int) : MS := (((S.thr, S.now, S.und), (S.byt, S.eat), (S.siz, S.nxt, S.err, S.plc), (S.beg, S.nst, S.hco), (S.abv, y), S.unk, S.blk), S.2)
def MS.s_unk (S : MS) (y : Nat) : MS := (((S.thr, S.now, S.und), (S.byt, S.eat), (S.siz, S.nxt, S.err, S.plc), (S.beg, S.nst, S.hco), (S.abv, S.blw), y, S.blk), S.2)
def MS.s_blk (S : MS) (y : Nat) : MS := (((S.thr, S.now, S.und), (S.byt, S.eat), (S.siz, S.nxt, S.err, S.plc), (S.beg, S.nst, S.hco), (S.abv, S.blw), S.unk, y), S.2)
def MS.rws (S : MS) : Nat → Nat := S.2.1.1
def MS.red (S : MS) : Nat → Nat := S.2.1.2.1
def MS.txt (S : MS) : Nat → Nat := S.2.1.2.2
def MS.wts (S : MS) : Nat → Nat := S.2.2.1.1
def MS.cst (S : MS) : Nat → Nat := S.2.2.1.2.1
def MS.dgs (S : MS) : Nat → Nat := S.2.2.1.2.2
def MS.pil (S : MS) : Nat → Int := S.2.2.2.1.1
def MS.mtx (S : MS) : Nat → Int := S.2.2.2.1.2.1
def MS.sqr (S : MS) : Nat → Int := S.2.2.2.1.2.2
def MS.pls (S : MS) : Nat → Int := S.2.2.2.2.1.1
def MS.fsh (S : MS) : Nat → Nat := S.2.2.2.2.1.2
def MS.chn (S : MS) : Nat → UInt32 := S.2.2.2.2.2.1
def MS.thn (S : MS) : Nat → UInt32 := S.2.2.2.2.2.2
def MS.s_rws (S : MS) (y : Nat → Nat) : MS := (S.1, (y, S.red, S.txt), (S.wts, S.cst, S.dgs), (S.pil, S.mtx, S.sqr), (S.pls, S.fsh), S.chn, S.thn)
def MS.s_red (S : MS) (y : Nat → Nat) : MS := (S.1, (S.rws, y, S.txt), (S.wts, S.cst, S.dgs), (S.pil, S.mtx, S.sqr), (S.pls, S.fsh), S.chn, S.thn)
def MS.s_txt (S : MS) (y : Nat → Nat) : MS := (S.1, (S.rws, S.red, y), (S.wts, S.cst, S.dgs), (S.pil, S.mtx, S.sqr), (S.pls, S.fsh), S.chn, S.thn)
def MS.s_wts (S : MS) (y : Nat → Nat) : MS := (S.1, (S.rws, S.red, S.txt), (y, S.cst, S.dgs), (S.pil, S.mtx, S.sqr), (S.pls, S.fsh), S.chn, S.thn)
def MS.s_cst (S : MS) (y : Nat → Nat) : MS := (S.1, (S.rws, S.red, S.txt), (S.wts, y, S.dgs), (S.pil, S.mtx, S.sqr), (S.pls, S.fsh), S.chn, S.thn)
def MS.s_dgs (S : MS) (y : Nat → Nat) : MS := (S.1, (S.rws, S.red, S.txt), (S.wts, S.cst, y), (S.pil, S.mtx, S.sqr), (S.pls, S.fsh), S.chn, S.thn)
def MS.s_pil (S : MS) (y : Nat → Int) : MS := (S.1, (S.rws, S.red, S.txt), (S.wts, S.cst, S.dgs), (y, S.mtx, S.sqr), (S.pls, S.fsh), S.chn, S.thn)
def MS.s_mtx (S : MS) (y : Nat → Int) : MS := (S.1, (S.rws, S.red, S.txt), (S.wts, S.cst, S.dgs), (S.pil, y, S.sqr), (S.pls, S.fsh), S.chn, S.thn)
def MS.s_sqr (S : MS) (y : Nat → Int) : MS := (S.1, (S.rws, S.red, S.txt), (S.wts, S.cst, S.dgs), (S.pil, S.mtx, y), (S.pls, S.fsh), S.chn, S.thn)
def MS.s_pls (S : MS) (y : Nat → Int) : MS := (S.1, (S.rws, S.red, S.txt), (S.wts, S.cst, S.dgs), (S.pil, S.mtx, S.sqr), (y, S.fsh), S.chn, S.thn)
def MS.s_fsh (S : MS) (y : Nat → Nat) : MS := (S.1, (S.rws, S.red, S.txt), (S.wts, S.cst, S.dgs), (S.pil, S.mtx, S.sqr), (S.pls, y), S.chn, S.thn)
def MS.s_chn (S : MS) (y : Nat → UInt32) : MS := (S.1, (S.rws, S.red, S.txt), (S.wts, S.cst, S.dgs), (S.pil, S.mtx, S.sqr), (S.pls, S.fsh), y, S.thn)
def MS.s_thn (S : MS) (y : Nat → UInt32) : MS := (S.1, (S.rws, S.red, S.txt), (S.wts, S.cst, S.dgs), (S.pil, S.mtx, S.sqr), (S.pls, S.fsh), S.chn, y)
def moE (m : Nat) (S : MSc) : va_E := ob 11 [.int (nI S.1.1), .ref (m + 1), .ref (m + 2), .int (nI S.1.2.1), .int (nI S.1.2.2), .ref (m + 3), .int (nI S.2.1.1), .int (zI S.2.1.2), .int (nI S.2.2.1.1), .int (nI S.2.2.1.2.1), .int (zI S.2.2.1.2.2.1), .int (nI S.2.2.1.2.2.2), .int (nI S.2.2.2.1.1), .int (nI S.2.2.2.1.2.1), .int (nI S.2.2.2.1.2.2), .ref (m + 4), .ref (m + 5), .ref (m + 6), .ref (m + 7), .long (lI S.2.2.2.2.1.1), .long (lI S.2.2.2.2.1.2), .ref (m + 8), .ref (m + 9), .ref (m + 10), .int (nI S.2.2.2.2.2.1), .ref (m + 11), .int (nI S.2.2.2.2.2.2), .ref (m + 12), .ref (m + 13)]
def mC (v : Ev) (m : Nat) (S : MS) : Nat → va_E
  | 0 => moE m S.1
  | 1 => aI v 11160 (iF S.rws)
  | 2 => aI v 1240 (iF S.red)
  | 3 => aI v 600 (iF S.txt)
  | 4 => aI v 36 (iF S.wts)
  | 5 => aI v 36 (iF S.cst)
  | 6 => aI v 6 (iF S.dgs)
  | 7 => aJ v 1200 (lF S.pil)
  | 8 => aJ v 42 (lF S.mtx)
  | 9 => aJ v 36 (lF S.sqr)
  | 10 => aI v 6 (sF S.pls)
  | 11 => aI v 6 (iF S.fsh)
  | 12 => aF v 6 S.chn
  | _ => aF v 6 S.thn
def mH (v : Ev) (h : Hp) (m : Nat) (S : MS) : Hp := fun a => if m ≤ a ∧ a < m + 14 then some (mC v m S (a - m)) else h a
section
variable {v : Ev} {h : Hp} {m : Nat} {S : MS}
theorem mH_at {k : Nat} (hk : k < 14) : mH v h m S (m + k) = some (mC v m S k) := by unfold mH; rw [if_pos (by omega), show m + k - m = k by omega]
theorem mH_0 : mH v h m S m = some (moE m S.1) := by unfold mH; rw [if_pos (by omega), Nat.sub_self]; rfl
theorem mH_out {a : Nat} (ha : a < m ∨ m + 14 ≤ a) : mH v h m S a = h a := if_neg (by omega)
theorem mH_ext {h' : Hp} (hi : ∀ k, k < 14 → h' (m + k) = some (mC v m S k)) (ho : ∀ a, (a < m ∨ m + 14 ≤ a) → h' a = h a) : h' = mH v h m S := by
  funext a
  by_cases ha : m ≤ a ∧ a < m + 14
  · obtain ⟨k, rfl⟩ : ∃ k, a = m + k := ⟨a - m, by omega⟩
    rw [hi k (by omega), mH_at (by omega)]
  · rw [ho a (by omega), mH_out (by omega)]
theorem mH_p0 {S' : MS} (e : S'.2 = S.2) : hp (mH v h m S) m (moE m S'.1) = mH v h m S' := by
  refine mH_ext (fun k hk => ?_) (fun a ha => (hp_ne _ _ (by omega)).trans (mH_out ha))
  rcases k with _ | k
  · exact hp_eq _ _ _
  · rw [hp_ne _ _ (by omega), mH_at (by omega)]
    rcases S' with ⟨a, b⟩
    rcases S with ⟨c, d⟩
    have e : b = d := e
    subst e
    rcases (show k = 0 ∨ k = 1 ∨ k = 2 ∨ k = 3 ∨ k = 4 ∨ k = 5 ∨ k = 6 ∨ k = 7 ∨ k = 8 ∨ k = 9 ∨ k = 10 ∨ k = 11 ∨ k = 12 by omega) with rfl | rfl | rfl | rfl | rfl | rfl | rfl | rfl | rfl | rfl | rfl | rfl | rfl <;> rfl
theorem mH_mH {S' : MS} : mH v (mH v h m S) m S' = mH v h m S' := mH_ext (fun k hk => mH_at hk) (fun a ha => (mH_out ha).trans (mH_out ha))
theorem mH_rws : mH v h m S (m + 1) = some (aI v 11160 (iF S.rws)) := mH_at (by omega)
theorem mH_srws (y : Nat → Nat) : hp (mH v h m S) (m + 1) (aI v 11160 (iF y)) = mH v h m (S.s_rws y) := by
  refine mH_ext (fun k hk => ?_) (fun a ha => (hp_ne _ _ (by omega)).trans (mH_out ha))
  by_cases e : k = 1
  · rw [e, hp_eq]
    rfl
  · rw [hp_ne _ _ (by omega), mH_at hk]
    rcases (show k = 0 ∨ k = 2 ∨ k = 3 ∨ k = 4 ∨ k = 5 ∨ k = 6 ∨ k = 7 ∨ k = 8 ∨ k = 9 ∨ k = 10 ∨ k = 11 ∨ k = 12 ∨ k = 13 by omega) with rfl | rfl | rfl | rfl | rfl | rfl | rfl | rfl | rfl | rfl | rfl | rfl | rfl <;> rfl
theorem mH_red : mH v h m S (m + 2) = some (aI v 1240 (iF S.red)) := mH_at (by omega)
theorem mH_sred (y : Nat → Nat) : hp (mH v h m S) (m + 2) (aI v 1240 (iF y)) = mH v h m (S.s_red y) := by
  refine mH_ext (fun k hk => ?_) (fun a ha => (hp_ne _ _ (by omega)).trans (mH_out ha))
  by_cases e : k = 2
  · rw [e, hp_eq]
    rfl
  · rw [hp_ne _ _ (by omega), mH_at hk]
    rcases (show k = 0 ∨ k = 1 ∨ k = 3 ∨ k = 4 ∨ k = 5 ∨ k = 6 ∨ k = 7 ∨ k = 8 ∨ k = 9 ∨ k = 10 ∨ k = 11 ∨ k = 12 ∨ k = 13 by omega) with rfl | rfl | rfl | rfl | rfl | rfl | rfl | rfl | rfl | rfl | rfl | rfl | rfl <;> rfl
theorem mH_txt : mH v h m S (m + 3) = some (aI v 600 (iF S.txt)) := mH_at (by omega)
theorem mH_stxt (y : Nat → Nat) : hp (mH v h m S) (m + 3) (aI v 600 (iF y)) = mH v h m (S.s_txt y) := by
  refine mH_ext (fun k hk => ?_) (fun a ha => (hp_ne _ _ (by omega)).trans (mH_out ha))
  by_cases e : k = 3
  · rw [e, hp_eq]
    rfl
  · rw [hp_ne _ _ (by omega), mH_at hk]
    rcases (show k = 0 ∨ k = 1 ∨ k = 2 ∨ k = 4 ∨ k = 5 ∨ k = 6 ∨ k = 7 ∨ k = 8 ∨ k = 9 ∨ k = 10 ∨ k = 11 ∨ k = 12 ∨ k = 13 by omega) with rfl | rfl | rfl | rfl | rfl | rfl | rfl | rfl | rfl | rfl | rfl | rfl | rfl <;> rfl
theorem mH_wts : mH v h m S (m + 4) = some (aI v 36 (iF S.wts)) := mH_at (by omega)
theorem mH_swts (y : Nat → Nat) : hp (mH v h m S) (m + 4) (aI v 36 (iF y)) = mH v h m (S.s_wts y) := by
  refine mH_ext (fun k hk => ?_) (fun a ha => (hp_ne _ _ (by omega)).trans (mH_out ha))
  by_cases e : k = 4
  · rw [e, hp_eq]
    rfl
  · rw [hp_ne _ _ (by omega), mH_at hk]
    rcases (show k = 0 ∨ k = 1 ∨ k = 2 ∨ k = 3 ∨ k = 5 ∨ k = 6 ∨ k = 7 ∨ k = 8 ∨ k = 9 ∨ k = 10 ∨ k = 11 ∨ k = 12 ∨ k = 13 by omega) with rfl | rfl | rfl | rfl | rfl | rfl | rfl | rfl | rfl | rfl | rfl | rfl | rfl <;> rfl
theorem mH_cst : mH v h m S (m + 5) = some (aI v 36 (iF S.cst)) := mH_at (by omega)
theorem mH_scst (y : Nat → Nat) : hp (mH v h m S) (m + 5) (aI v 36 (iF y)) = mH v h m (S.s_cst y) := by
  refine mH_ext (fun k hk => ?_) (fun a ha => (hp_ne _ _ (by omega)).trans (mH_out ha))
  by_cases e : k = 5
  · rw [e, hp_eq]
    rfl
  · rw [hp_ne _ _ (by omega), mH_at hk]
    rcases (show k = 0 ∨ k = 1 ∨ k = 2 ∨ k = 3 ∨ k = 4 ∨ k = 6 ∨ k = 7 ∨ k = 8 ∨ k = 9 ∨ k = 10 ∨ k = 11 ∨ k = 12 ∨ k = 13 by omega) with rfl | rfl | rfl | rfl | rfl | rfl | rfl | rfl | rfl | rfl | rfl | rfl | rfl <;> rfl
theorem mH_dgs : mH v h m S (m + 6) = some (aI v 6 (iF S.dgs)) := mH_at (by omega)
theorem mH_sdgs (y : Nat → Nat) : hp (mH v h m S) (m + 6) (aI v 6 (iF y)) = mH v h m (S.s_dgs y) := by
  refine mH_ext (fun k hk => ?_) (fun a ha => (hp_ne _ _ (by omega)).trans (mH_out ha))
  by_cases e : k = 6
  · rw [e, hp_eq]
    rfl
  · rw [hp_ne _ _ (by omega), mH_at hk]
    rcases (show k = 0 ∨ k = 1 ∨ k = 2 ∨ k = 3 ∨ k = 4 ∨ k = 5 ∨ k = 7 ∨ k = 8 ∨ k = 9 ∨ k = 10 ∨ k = 11 ∨ k = 12 ∨ k = 13 by omega) with rfl | rfl | rfl | rfl | rfl | rfl | rfl | rfl | rfl | rfl | rfl | rfl | rfl <;> rfl
theorem mH_pil : mH v h m S (m + 7) = some (aJ v 1200 (lF S.pil)) := mH_at (by omega)
theorem mH_spil (y : Nat → Int) : hp (mH v h m S) (m + 7) (aJ v 1200 (lF y)) = mH v h m (S.s_pil y) := by
  refine mH_ext (fun k hk => ?_) (fun a ha => (hp_ne _ _ (by omega)).trans (mH_out ha))
  by_cases e : k = 7
  · rw [e, hp_eq]
    rfl
  · rw [hp_ne _ _ (by omega), mH_at hk]
    rcases (show k = 0 ∨ k = 1 ∨ k = 2 ∨ k = 3 ∨ k = 4 ∨ k = 5 ∨ k = 6 ∨ k = 8 ∨ k = 9 ∨ k = 10 ∨ k = 11 ∨ k = 12 ∨ k = 13 by omega) with rfl | rfl | rfl | rfl | rfl | rfl | rfl | rfl | rfl | rfl | rfl | rfl | rfl <;> rfl
theorem mH_mtx : mH v h m S (m + 8) = some (aJ v 42 (lF S.mtx)) := mH_at (by omega)
theorem mH_smtx (y : Nat → Int) : hp (mH v h m S) (m + 8) (aJ v 42 (lF y)) = mH v h m (S.s_mtx y) := by
  refine mH_ext (fun k hk => ?_) (fun a ha => (hp_ne _ _ (by omega)).trans (mH_out ha))
  by_cases e : k = 8
  · rw [e, hp_eq]
    rfl
  · rw [hp_ne _ _ (by omega), mH_at hk]
    rcases (show k = 0 ∨ k = 1 ∨ k = 2 ∨ k = 3 ∨ k = 4 ∨ k = 5 ∨ k = 6 ∨ k = 7 ∨ k = 9 ∨ k = 10 ∨ k = 11 ∨ k = 12 ∨ k = 13 by omega) with rfl | rfl | rfl | rfl | rfl | rfl | rfl | rfl | rfl | rfl | rfl | rfl | rfl <;> rfl
theorem mH_sqr : mH v h m S (m + 9) = some (aJ v 36 (lF S.sqr)) := mH_at (by omega)
theorem mH_ssqr (y : Nat → Int) : hp (mH v h m S) (m + 9) (aJ v 36 (lF y)) = mH v h m (S.s_sqr y) := by
  refine mH_ext (fun k hk => ?_) (fun a ha => (hp_ne _ _ (by omega)).trans (mH_out ha))
  by_cases e : k = 9
  · rw [e, hp_eq]
    rfl
  · rw [hp_ne _ _ (by omega), mH_at hk]
    rcases (show k = 0 ∨ k = 1 ∨ k = 2 ∨ k = 3 ∨ k = 4 ∨ k = 5 ∨ k = 6 ∨ k = 7 ∨ k = 8 ∨ k = 10 ∨ k = 11 ∨ k = 12 ∨ k = 13 by omega) with rfl | rfl | rfl | rfl | rfl | rfl | rfl | rfl | rfl | rfl | rfl | rfl | rfl <;> rfl
theorem mH_pls : mH v h m S (m + 10) = some (aI v 6 (sF S.pls)) := mH_at (by omega)
theorem mH_spls (y : Nat → Int) : hp (mH v h m S) (m + 10) (aI v 6 (sF y)) = mH v h m (S.s_pls y) := by
  refine mH_ext (fun k hk => ?_) (fun a ha => (hp_ne _ _ (by omega)).trans (mH_out ha))
  by_cases e : k = 10
  · rw [e, hp_eq]
    rfl
  · rw [hp_ne _ _ (by omega), mH_at hk]
    rcases (show k = 0 ∨ k = 1 ∨ k = 2 ∨ k = 3 ∨ k = 4 ∨ k = 5 ∨ k = 6 ∨ k = 7 ∨ k = 8 ∨ k = 9 ∨ k = 11 ∨ k = 12 ∨ k = 13 by omega) with rfl | rfl | rfl | rfl | rfl | rfl | rfl | rfl | rfl | rfl | rfl | rfl | rfl <;> rfl
theorem mH_fsh : mH v h m S (m + 11) = some (aI v 6 (iF S.fsh)) := mH_at (by omega)
theorem mH_sfsh (y : Nat → Nat) : hp (mH v h m S) (m + 11) (aI v 6 (iF y)) = mH v h m (S.s_fsh y) := by
  refine mH_ext (fun k hk => ?_) (fun a ha => (hp_ne _ _ (by omega)).trans (mH_out ha))
  by_cases e : k = 11
  · rw [e, hp_eq]
    rfl
  · rw [hp_ne _ _ (by omega), mH_at hk]
    rcases (show k = 0 ∨ k = 1 ∨ k = 2 ∨ k = 3 ∨ k = 4 ∨ k = 5 ∨ k = 6 ∨ k = 7 ∨ k = 8 ∨ k = 9 ∨ k = 10 ∨ k = 12 ∨ k = 13 by omega) with rfl | rfl | rfl | rfl | rfl | rfl | rfl | rfl | rfl | rfl | rfl | rfl | rfl <;> rfl
theorem mH_chn : mH v h m S (m + 12) = some (aF v 6 S.chn) := mH_at (by omega)
theorem mH_schn (y : Nat → UInt32) : hp (mH v h m S) (m + 12) (aF v 6 y) = mH v h m (S.s_chn y) := by
  refine mH_ext (fun k hk => ?_) (fun a ha => (hp_ne _ _ (by omega)).trans (mH_out ha))
  by_cases e : k = 12
  · rw [e, hp_eq]
    rfl
  · rw [hp_ne _ _ (by omega), mH_at hk]
    rcases (show k = 0 ∨ k = 1 ∨ k = 2 ∨ k = 3 ∨ k = 4 ∨ k = 5 ∨ k = 6 ∨ k = 7 ∨ k = 8 ∨ k = 9 ∨ k = 10 ∨ k = 11 ∨ k = 13 by omega) with rfl | rfl | rfl | rfl | rfl | rfl | rfl | rfl | rfl | rfl | rfl | rfl | rfl <;> rfl
theorem mH_thn : mH v h m S (m + 13) = some (aF v 6 S.thn) := mH_at (by omega)
theorem mH_sthn (y : Nat → UInt32) : hp (mH v h m S) (m + 13) (aF v 6 y) = mH v h m (S.s_thn y) := by
  refine mH_ext (fun k hk => ?_) (fun a ha => (hp_ne _ _ (by omega)).trans (mH_out ha))
  by_cases e : k = 13
  · rw [e, hp_eq]
    rfl
  · rw [hp_ne _ _ (by omega), mH_at hk]
    rcases (show k = 0 ∨ k = 1 ∨ k = 2 ∨ k = 3 ∨ k = 4 ∨ k = 5 ∨ k = 6 ∨ k = 7 ∨ k = 8 ∨ k = 9 ∨ k = 10 ∨ k = 11 ∨ k = 12 by omega) with rfl | rfl | rfl | rfl | rfl | rfl | rfl | rfl | rfl | rfl | rfl | rfl | rfl <;> rfl
end

