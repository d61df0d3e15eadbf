/-! ===== calls that are never refused, on both sides ===== -/
theorem upN_b {b : Nat → Nat} {i y : Nat} (h : ∀ k, b k < 256) (hy : y < 256) : ∀ k, upN b i y k < 256 := by
  intro k
  unfold upN
  split
  · exact hy
  · exact h k
theorem hld_b {b : Nat → Nat} {n : Nat} {w : Int32} (h : ∀ k, b k < 256) : ∀ k, hld b n w k < 256 := upN_b (upN_b (upN_b (upN_b h (uB_lt _)) (uB_lt _)) (uB_lt _)) (uB_lt _)
theorem ap5_b {b : Nat → Nat} {n : Nat} {w0 w1 w2 w3 w4 : Int32} (h : ∀ k, b k < 256) : ∀ k, ap5 b n w0 w1 w2 w3 w4 k < 256 := hld_b (hld_b (hld_b (hld_b (hld_b h))))
section
variable {v : Ev} {h : Hp} {top x : Nat} {Z : CS} {S : MS}
theorem op_append (I : Inv v h top x Z S) (w1 w2 w3 w4 w5 : Int32) : PairA v x mX10_append mX11_append [.int w1, .int w2, .int w3, .int w4, .int w5] anI 3 1 h top := by
  have K := I.1
  have okz := I.okZ
  have R0 := I.rel
  obtain ⟨⟨a1, a2, a3, a4, a5⟩, -⟩ := id R0
  refine mkA I (c_append K okz) (fun h0 top0 => (c_mAppend (v := v) (h := h0) (m := x + 96) (top := top0) a4).mono ?_) ⟨_, rfl⟩
  rintro r h2 top2 ⟨q1, q2, q3⟩
  rw [← a3] at q1
  refine ⟨q1, q2, _, q3, ?_⟩
  by_cases c : S.byt ≤ 580
  · rw [if_pos c, if_pos (show Z.1.2.2 ≤ 580 by omega)]
    obtain ⟨-, ⟨b1, b2, b3, b4⟩, k3, k4⟩ := R0
    have er : ∀ r, r < 9 → rowE S (((S.s_thr 0).s_txt (ap5 S.txt S.byt w1 w2 w3 w4 w5)).s_byt (S.byt + 20)) r r := fun r hr => ⟨hr, fun _ _ => rfl⟩
    refine ⟨⟨a1, ?_, ?_, ?_, ap5_b a5⟩, ⟨b1, b2, b3, b4⟩, k3.row (er _ b1), fun i hi => (k4 i hi).row (er _ (Nat.mod_lt _ (by omega)))⟩
    · show ap5 Z.1.2.1 Z.1.2.2 w1 w2 w3 w4 w5 = ap5 S.txt S.byt w1 w2 w3 w4 w5
      rw [a2, a3]
    · show Z.1.2.2 + 20 = S.byt + 20
      rw [a3]
    · show S.byt + 20 ≤ 600
      omega
  · rw [if_neg c, if_neg (show ¬ Z.1.2.2 ≤ 580 by omega)]
    exact R0.per (per0 S 0)
theorem op_errorOffset (I : Inv v h top x Z S) : PairA v x mX10_errorOffset mX11_errorOffset [] anI 1 1 h top := by
  refine mkA I (c_errO I.1) (refA (t := 0) I (fun h0 top0 => ?_)) ⟨_, rfl⟩
  rw [I.rel.1.1]
  exact c_mErrO
theorem op_size (I : Inv v h top x Z S) : PairA v x mX10_size mX11_size [] anI 1 3 h top := by
  obtain ⟨cn, cc, hr, hc⟩ := I.cur
  exact mkA I (c_size I.1) (refA I (fun h0 top0 => c_mSize hr.1)) ⟨_, rfl⟩
theorem op_edgeCount (I : Inv v h top x Z S) : PairA v x mX10_edgeCount mX11_edgeCount [] anI 1 3 h top := by
  obtain ⟨cn, cc, hr, hc⟩ := I.cur
  exact mkA I (c_edgeC I.1) (refA I (fun h0 top0 => c_mEdges hr.1)) ⟨_, rfl⟩
theorem op_absorbing (I : Inv v h top x Z S) : PairA v x mX10_absorbing mX11_absorbing [] anI 1 3 h top := by
  obtain ⟨cn, cc, hr, hc⟩ := I.cur
  exact mkA I (c_absb I.1) (refA I (fun h0 top0 => c_mAbsb hr.1)) ⟨_, rfl⟩
theorem op_blockCount (I : Inv v h top x Z S) : PairA v x mX10_blockCount mX11_blockCount [] anI 1 4 h top := by
  obtain ⟨cn, cc, hr, hc⟩ := I.cur
  exact mkA I (c_blkC I.1) (refA I (fun h0 top0 => c_mBlockCount hr I.can.bk)) ⟨_, rfl⟩
theorem op_parted (I : Inv v h top x Z S) : PairA v x mX10_parted mX11_parted [] anI 5 6 h top := by
  obtain ⟨cn, cc, hr, hc⟩ := I.cur
  exact mkA I (c_parted I.1 I.okZ) (refA I (fun h0 top0 => c_mPartedQ hr I.can.bk)) ⟨_, rfl⟩
theorem op_isLumpable (I : Inv v h top x Z S) : PairA v x mX10_isLumpable mX11_isLumpable [] anI 5 6 h top := by
  obtain ⟨cn, cc, hr, hc⟩ := I.cur
  refine mkA I (c_isLump I.1 I.okZ) (refA (t := 0) I (fun h0 top0 => ?_)) ⟨_, rfl⟩
  have k := c_mLumpable (v := v) (h := h0) (m := x + 96) (top := top0) hr I.can.bk (I.can.b6 I.okZ.1.1)
  have e : Bool.toNat (!ptB Z.2.1) = (if ptB Z.2.1 = true then 0 else 1) := by cases ptB Z.2.1 <;> rfl
  rw [e] at k
  exact k
/-- the trees are the same -/
theorem tr_both (I : Inv v h top x Z S) : (2 ≤ Z.2.1.n → okA (trM Z.2.1.W Z.2.1.n) (trK Z.2.1.n)) ∧ (Z.2.1.n ≠ 0 → okTr Z.2.1.W Z.2.1.n) ∧ trC Z.2.1 = trD Z.2.1.W Z.2.1.n := by
  obtain ⟨cn, cc, hr, hc⟩ := I.cur
  have n1 : Z.2.1.n ≠ 1 := I.rel.2.2.1.1.2
  have hW := hr.2.1.gd
  refine ⟨fun z => (tr_all hW z).1, fun z => (tr_all hW (by omega)).2.2, ?_⟩
  unfold trC
  by_cases c : Z.2.1.n < 2
  · rw [if_pos c, show Z.2.1.n = 0 by omega]
    exact tr_low.2.symm
  · rw [if_neg c]
    exact (tr_all hW (by omega)).2.1
theorem op_trees (I : Inv v h top x Z S) : PairA v x mX10_trees mX11_trees [] anJ 6 6 h top := by
  obtain ⟨cn, cc, hr, hc⟩ := I.cur
  obtain ⟨t1, t2, t3⟩ := tr_both I
  refine mkA I (c_treesQ I.1 I.okZ t1) (refA (t := 0) I (fun h0 top0 => ?_)) ⟨_, rfl⟩
  rw [t3]
  exact c_mTrees hr t2
theorem op_checksum (I : Inv v h top x Z S) : PairA v x mX10_checksum mX11_checksum [] anJ 7 6 h top := by
  obtain ⟨cn, cc, hr, hc⟩ := I.cur
  obtain ⟨t1, t2, t3⟩ := tr_both I
  refine mkA I (c_cksum I.1 I.okZ hr.2.1.okL t1) (refA (t := 0) I (fun h0 top0 => ?_)) ⟨_, rfl⟩
  rw [t3]
  exact c_mCks hr t2
theorem op_refine (I : Inv v h top x Z S) : PairA v x mX10_refine mX11_refine [] anI 8 6 h top := by
  obtain ⟨cn, cc, hr, hc⟩ := I.cur
  refine mkA I (c_refineX I.1 I.okZ) (fun h0 top0 => (c_mRefine (v := v) (h := h0) (m := x + 96) (top := top0) hr I.rel.2.1.2.2.2 I.can).mono ?_) ⟨_, rfl⟩
  rintro r h2 top2 ⟨q1, q2, S', q3, q4, -, q6⟩
  exact ⟨q1, q2, S', q3, ch_rfn I.rel (q6 rfl)⟩
theorem op_undo (I : Inv v h top x Z S) : PairA v x mX10_undo mX11_undo [] anI 8 1 h top := by
  have R0 := I.rel
  have u3 := R0.2.1.2.2.1
  refine mkA I (c_undo I.1 I.okZ) (fun h0 top0 => (c_mUndo (v := v) (h := h0) (m := x + 96) (top := top0) R0.2.1.1 R0.2.1.2.2.2).mono ?_) ⟨_, rfl⟩
  rintro r h2 top2 ⟨q1, q2, q3⟩
  rw [← u3] at q1
  refine ⟨q1, q2, _, q3, ?_⟩
  by_cases c : S.und = 0
  · rw [if_pos c]
    have e : Z.und = Z := by
      unfold CS.und
      rw [if_pos (by omega)]
    rw [e]
    exact R0.per (per0 S 0)
  · rw [if_neg c]
    exact R0.und c rfl rfl rfl ⟨rfl, rfl, rfl⟩
end

