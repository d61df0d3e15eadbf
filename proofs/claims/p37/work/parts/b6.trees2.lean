/-! ===== trees: both counts (written by wip/p37/gen_b6.py) ===== -/
section
variable {W : Nat → Nat} {w : Nat → Nat → Nat}
theorem trW_2 (hW : ∀ i j, i < 6 → j < 6 → W (i * 6 + j) = wq w (allP 2 2) i j) : lm (rMt W 2 (ascL (unP (2 ^ 2 - 1) 1) 2) (fun _ => 0) (-1)) (ascL (unP (2 ^ 2 - 1) 1) 2).length = ((w 0 1 : Nat) : Int) := by
  have eL : ascL (unP (2 ^ 2 - 1) 1) 2 = [1] := by decide
  have h00 : W 0 = 0 := (hW 0 0 (by decide) (by decide)).trans (by unfold wq; rw [if_neg (by decide), if_neg (by decide)])
  have h01 : W 1 = w 0 1 := (hW 0 1 (by decide) (by decide)).trans (by unfold wq; rw [if_pos (by decide)])
  have h10 : W 6 = w 0 1 := (hW 1 0 (by decide) (by decide)).trans (by unfold wq; rw [if_neg (by decide), if_pos (by decide)])
  have h11 : W 7 = 0 := (hW 1 1 (by decide) (by decide)).trans (by unfold wq; rw [if_neg (by decide), if_neg (by decide)])
  rw [eL]
  show lpl W 2 1 1 = _
  have a11 : lpl W 2 1 1 = ((w 0 1 : Nat) : Int) := by
    show ((0 + W 6 + W 7 : Nat) : Int) = _
    omega
  rw [a11]
theorem trT_2 {S : LT} (hS : S.n = 2) (I : InvL 2 w S (allP 2 2)) (hW : ∀ i j, i < 6 → j < 6 → W (i * 6 + j) = wq w (allP 2 2) i j) : TF S S.e 1 (fun u => u) = lm (rMt W 2 (ascL (unP (2 ^ 2 - 1) 1) 2) (fun _ => 0) (-1)) (ascL (unP (2 ^ 2 - 1) 1) 2).length := by
  rw [TF_list I.2.2.2.2.1 I.2.2.2.2.2 S.e 1 _ (Nat.le_refl _), Nat.sub_self, List.drop_zero, hS, TFl_edl, trW_2 hW]
  have e : (allP 2 2).map (fun p => (p.1, p.2, ((w p.1 p.2 : Nat) : Int))) = [(0, 1, ((w 0 1 : Nat) : Int))] := rfl
  rw [e, tfE_2 ((w 0 1 : Nat) : Int), tfD_2 ((w 0 1 : Nat) : Int)]
theorem trW_3 (hW : ∀ i j, i < 6 → j < 6 → W (i * 6 + j) = wq w (allP 3 3) i j) : lm (rMt W 3 (ascL (unP (2 ^ 3 - 1) 1) 3) (fun _ => 0) (-1)) (ascL (unP (2 ^ 3 - 1) 1) 3).length = d2 (((w 0 1 : Nat) : Int) + ((w 1 2 : Nat) : Int)) (-((w 1 2 : Nat) : Int)) (-((w 1 2 : Nat) : Int)) (((w 0 2 : Nat) : Int) + ((w 1 2 : Nat) : Int)) := by
  have eL : ascL (unP (2 ^ 3 - 1) 1) 3 = [1, 2] := by decide
  have h00 : W 0 = 0 := (hW 0 0 (by decide) (by decide)).trans (by unfold wq; rw [if_neg (by decide), if_neg (by decide)])
  have h01 : W 1 = w 0 1 := (hW 0 1 (by decide) (by decide)).trans (by unfold wq; rw [if_pos (by decide)])
  have h02 : W 2 = w 0 2 := (hW 0 2 (by decide) (by decide)).trans (by unfold wq; rw [if_pos (by decide)])
  have h10 : W 6 = w 0 1 := (hW 1 0 (by decide) (by decide)).trans (by unfold wq; rw [if_neg (by decide), if_pos (by decide)])
  have h11 : W 7 = 0 := (hW 1 1 (by decide) (by decide)).trans (by unfold wq; rw [if_neg (by decide), if_neg (by decide)])
  have h12 : W 8 = w 1 2 := (hW 1 2 (by decide) (by decide)).trans (by unfold wq; rw [if_pos (by decide)])
  have h20 : W 12 = w 0 2 := (hW 2 0 (by decide) (by decide)).trans (by unfold wq; rw [if_neg (by decide), if_pos (by decide)])
  have h21 : W 13 = w 1 2 := (hW 2 1 (by decide) (by decide)).trans (by unfold wq; rw [if_neg (by decide), if_pos (by decide)])
  have h22 : W 14 = 0 := (hW 2 2 (by decide) (by decide)).trans (by unfold wq; rw [if_neg (by decide), if_neg (by decide)])
  rw [eL]
  show d2 (lpl W 3 1 1) (lpl W 3 1 2) (lpl W 3 2 1) (lpl W 3 2 2) = _
  have a11 : lpl W 3 1 1 = ((w 0 1 : Nat) : Int) + ((w 1 2 : Nat) : Int) := by
    show ((0 + W 6 + W 7 + W 8 : Nat) : Int) = _
    omega
  have a12 : lpl W 3 1 2 = -((w 1 2 : Nat) : Int) := by
    show -((W 8 : Nat) : Int) = _
    omega
  have a21 : lpl W 3 2 1 = -((w 1 2 : Nat) : Int) := by
    show -((W 13 : Nat) : Int) = _
    omega
  have a22 : lpl W 3 2 2 = ((w 0 2 : Nat) : Int) + ((w 1 2 : Nat) : Int) := by
    show ((0 + W 12 + W 13 + W 14 : Nat) : Int) = _
    omega
  rw [a11, a12, a21, a22]
theorem trT_3 {S : LT} (hS : S.n = 3) (I : InvL 3 w S (allP 3 3)) (hW : ∀ i j, i < 6 → j < 6 → W (i * 6 + j) = wq w (allP 3 3) i j) : TF S S.e 2 (fun u => u) = lm (rMt W 3 (ascL (unP (2 ^ 3 - 1) 1) 3) (fun _ => 0) (-1)) (ascL (unP (2 ^ 3 - 1) 1) 3).length := by
  rw [TF_list I.2.2.2.2.1 I.2.2.2.2.2 S.e 2 _ (Nat.le_refl _), Nat.sub_self, List.drop_zero, hS, TFl_edl, trW_3 hW]
  have e : (allP 3 3).map (fun p => (p.1, p.2, ((w p.1 p.2 : Nat) : Int))) = [(0, 1, ((w 0 1 : Nat) : Int)), (0, 2, ((w 0 2 : Nat) : Int)), (1, 2, ((w 1 2 : Nat) : Int))] := rfl
  rw [e, tfE_3 ((w 0 1 : Nat) : Int) ((w 0 2 : Nat) : Int) ((w 1 2 : Nat) : Int), tfD_3 ((w 0 1 : Nat) : Int) ((w 0 2 : Nat) : Int) ((w 1 2 : Nat) : Int)]
theorem trW_4 (hW : ∀ i j, i < 6 → j < 6 → W (i * 6 + j) = wq w (allP 4 4) i j) : lm (rMt W 4 (ascL (unP (2 ^ 4 - 1) 1) 4) (fun _ => 0) (-1)) (ascL (unP (2 ^ 4 - 1) 1) 4).length = d3 (((w 0 1 : Nat) : Int) + ((w 1 2 : Nat) : Int) + ((w 1 3 : Nat) : Int)) (-((w 1 2 : Nat) : Int)) (-((w 1 3 : Nat) : Int)) (-((w 1 2 : Nat) : Int)) (((w 0 2 : Nat) : Int) + ((w 1 2 : Nat) : Int) + ((w 2 3 : Nat) : Int)) (-((w 2 3 : Nat) : Int)) (-((w 1 3 : Nat) : Int)) (-((w 2 3 : Nat) : Int)) (((w 0 3 : Nat) : Int) + ((w 1 3 : Nat) : Int) + ((w 2 3 : Nat) : Int)) := by
  have eL : ascL (unP (2 ^ 4 - 1) 1) 4 = [1, 2, 3] := by decide
  have h00 : W 0 = 0 := (hW 0 0 (by decide) (by decide)).trans (by unfold wq; rw [if_neg (by decide), if_neg (by decide)])
  have h01 : W 1 = w 0 1 := (hW 0 1 (by decide) (by decide)).trans (by unfold wq; rw [if_pos (by decide)])
  have h02 : W 2 = w 0 2 := (hW 0 2 (by decide) (by decide)).trans (by unfold wq; rw [if_pos (by decide)])
  have h03 : W 3 = w 0 3 := (hW 0 3 (by decide) (by decide)).trans (by unfold wq; rw [if_pos (by decide)])
  have h10 : W 6 = w 0 1 := (hW 1 0 (by decide) (by decide)).trans (by unfold wq; rw [if_neg (by decide), if_pos (by decide)])
  have h11 : W 7 = 0 := (hW 1 1 (by decide) (by decide)).trans (by unfold wq; rw [if_neg (by decide), if_neg (by decide)])
  have h12 : W 8 = w 1 2 := (hW 1 2 (by decide) (by decide)).trans (by unfold wq; rw [if_pos (by decide)])
  have h13 : W 9 = w 1 3 := (hW 1 3 (by decide) (by decide)).trans (by unfold wq; rw [if_pos (by decide)])
  have h20 : W 12 = w 0 2 := (hW 2 0 (by decide) (by decide)).trans (by unfold wq; rw [if_neg (by decide), if_pos (by decide)])
  have h21 : W 13 = w 1 2 := (hW 2 1 (by decide) (by decide)).trans (by unfold wq; rw [if_neg (by decide), if_pos (by decide)])
  have h22 : W 14 = 0 := (hW 2 2 (by decide) (by decide)).trans (by unfold wq; rw [if_neg (by decide), if_neg (by decide)])
  have h23 : W 15 = w 2 3 := (hW 2 3 (by decide) (by decide)).trans (by unfold wq; rw [if_pos (by decide)])
  have h30 : W 18 = w 0 3 := (hW 3 0 (by decide) (by decide)).trans (by unfold wq; rw [if_neg (by decide), if_pos (by decide)])
  have h31 : W 19 = w 1 3 := (hW 3 1 (by decide) (by decide)).trans (by unfold wq; rw [if_neg (by decide), if_pos (by decide)])
  have h32 : W 20 = w 2 3 := (hW 3 2 (by decide) (by decide)).trans (by unfold wq; rw [if_neg (by decide), if_pos (by decide)])
  have h33 : W 21 = 0 := (hW 3 3 (by decide) (by decide)).trans (by unfold wq; rw [if_neg (by decide), if_neg (by decide)])
  rw [eL]
  show d3 (lpl W 4 1 1) (lpl W 4 1 2) (lpl W 4 1 3) (lpl W 4 2 1) (lpl W 4 2 2) (lpl W 4 2 3) (lpl W 4 3 1) (lpl W 4 3 2) (lpl W 4 3 3) = _
  have a11 : lpl W 4 1 1 = ((w 0 1 : Nat) : Int) + ((w 1 2 : Nat) : Int) + ((w 1 3 : Nat) : Int) := by
    show ((0 + W 6 + W 7 + W 8 + W 9 : Nat) : Int) = _
    omega
  have a12 : lpl W 4 1 2 = -((w 1 2 : Nat) : Int) := by
    show -((W 8 : Nat) : Int) = _
    omega
  have a13 : lpl W 4 1 3 = -((w 1 3 : Nat) : Int) := by
    show -((W 9 : Nat) : Int) = _
    omega
  have a21 : lpl W 4 2 1 = -((w 1 2 : Nat) : Int) := by
    show -((W 13 : Nat) : Int) = _
    omega
  have a22 : lpl W 4 2 2 = ((w 0 2 : Nat) : Int) + ((w 1 2 : Nat) : Int) + ((w 2 3 : Nat) : Int) := by
    show ((0 + W 12 + W 13 + W 14 + W 15 : Nat) : Int) = _
    omega
  have a23 : lpl W 4 2 3 = -((w 2 3 : Nat) : Int) := by
    show -((W 15 : Nat) : Int) = _
    omega
  have a31 : lpl W 4 3 1 = -((w 1 3 : Nat) : Int) := by
    show -((W 19 : Nat) : Int) = _
    omega
  have a32 : lpl W 4 3 2 = -((w 2 3 : Nat) : Int) := by
    show -((W 20 : Nat) : Int) = _
    omega
  have a33 : lpl W 4 3 3 = ((w 0 3 : Nat) : Int) + ((w 1 3 : Nat) : Int) + ((w 2 3 : Nat) : Int) := by
    show ((0 + W 18 + W 19 + W 20 + W 21 : Nat) : Int) = _
    omega
  rw [a11, a12, a13, a21, a22, a23, a31, a32, a33]
theorem trT_4 {S : LT} (hS : S.n = 4) (I : InvL 4 w S (allP 4 4)) (hW : ∀ i j, i < 6 → j < 6 → W (i * 6 + j) = wq w (allP 4 4) i j) : TF S S.e 3 (fun u => u) = lm (rMt W 4 (ascL (unP (2 ^ 4 - 1) 1) 4) (fun _ => 0) (-1)) (ascL (unP (2 ^ 4 - 1) 1) 4).length := by
  rw [TF_list I.2.2.2.2.1 I.2.2.2.2.2 S.e 3 _ (Nat.le_refl _), Nat.sub_self, List.drop_zero, hS, TFl_edl, trW_4 hW]
  have e : (allP 4 4).map (fun p => (p.1, p.2, ((w p.1 p.2 : Nat) : Int))) = [(0, 1, ((w 0 1 : Nat) : Int)), (0, 2, ((w 0 2 : Nat) : Int)), (0, 3, ((w 0 3 : Nat) : Int)), (1, 2, ((w 1 2 : Nat) : Int)), (1, 3, ((w 1 3 : Nat) : Int)), (2, 3, ((w 2 3 : Nat) : Int))] := rfl
  rw [e, tfE_4 ((w 0 1 : Nat) : Int) ((w 0 2 : Nat) : Int) ((w 0 3 : Nat) : Int) ((w 1 2 : Nat) : Int) ((w 1 3 : Nat) : Int) ((w 2 3 : Nat) : Int), tfD_4 ((w 0 1 : Nat) : Int) ((w 0 2 : Nat) : Int) ((w 0 3 : Nat) : Int) ((w 1 2 : Nat) : Int) ((w 1 3 : Nat) : Int) ((w 2 3 : Nat) : Int)]
theorem trW_5 (hW : ∀ i j, i < 6 → j < 6 → W (i * 6 + j) = wq w (allP 5 5) i j) : lm (rMt W 5 (ascL (unP (2 ^ 5 - 1) 1) 5) (fun _ => 0) (-1)) (ascL (unP (2 ^ 5 - 1) 1) 5).length = d4 (((w 0 1 : Nat) : Int) + ((w 1 2 : Nat) : Int) + ((w 1 3 : Nat) : Int) + ((w 1 4 : Nat) : Int)) (-((w 1 2 : Nat) : Int)) (-((w 1 3 : Nat) : Int)) (-((w 1 4 : Nat) : Int)) (-((w 1 2 : Nat) : Int)) (((w 0 2 : Nat) : Int) + ((w 1 2 : Nat) : Int) + ((w 2 3 : Nat) : Int) + ((w 2 4 : Nat) : Int)) (-((w 2 3 : Nat) : Int)) (-((w 2 4 : Nat) : Int)) (-((w 1 3 : Nat) : Int)) (-((w 2 3 : Nat) : Int)) (((w 0 3 : Nat) : Int) + ((w 1 3 : Nat) : Int) + ((w 2 3 : Nat) : Int) + ((w 3 4 : Nat) : Int)) (-((w 3 4 : Nat) : Int)) (-((w 1 4 : Nat) : Int)) (-((w 2 4 : Nat) : Int)) (-((w 3 4 : Nat) : Int)) (((w 0 4 : Nat) : Int) + ((w 1 4 : Nat) : Int) + ((w 2 4 : Nat) : Int) + ((w 3 4 : Nat) : Int)) := by
  have eL : ascL (unP (2 ^ 5 - 1) 1) 5 = [1, 2, 3, 4] := by decide
  have h00 : W 0 = 0 := (hW 0 0 (by decide) (by decide)).trans (by unfold wq; rw [if_neg (by decide), if_neg (by decide)])
  have h01 : W 1 = w 0 1 := (hW 0 1 (by decide) (by decide)).trans (by unfold wq; rw [if_pos (by decide)])
  have h02 : W 2 = w 0 2 := (hW 0 2 (by decide) (by decide)).trans (by unfold wq; rw [if_pos (by decide)])
  have h03 : W 3 = w 0 3 := (hW 0 3 (by decide) (by decide)).trans (by unfold wq; rw [if_pos (by decide)])
  have h04 : W 4 = w 0 4 := (hW 0 4 (by decide) (by decide)).trans (by unfold wq; rw [if_pos (by decide)])
  have h10 : W 6 = w 0 1 := (hW 1 0 (by decide) (by decide)).trans (by unfold wq; rw [if_neg (by decide), if_pos (by decide)])
  have h11 : W 7 = 0 := (hW 1 1 (by decide) (by decide)).trans (by unfold wq; rw [if_neg (by decide), if_neg (by decide)])
  have h12 : W 8 = w 1 2 := (hW 1 2 (by decide) (by decide)).trans (by unfold wq; rw [if_pos (by decide)])
  have h13 : W 9 = w 1 3 := (hW 1 3 (by decide) (by decide)).trans (by unfold wq; rw [if_pos (by decide)])
  have h14 : W 10 = w 1 4 := (hW 1 4 (by decide) (by decide)).trans (by unfold wq; rw [if_pos (by decide)])
  have h20 : W 12 = w 0 2 := (hW 2 0 (by decide) (by decide)).trans (by unfold wq; rw [if_neg (by decide), if_pos (by decide)])
  have h21 : W 13 = w 1 2 := (hW 2 1 (by decide) (by decide)).trans (by unfold wq; rw [if_neg (by decide), if_pos (by decide)])
  have h22 : W 14 = 0 := (hW 2 2 (by decide) (by decide)).trans (by unfold wq; rw [if_neg (by decide), if_neg (by decide)])
  have h23 : W 15 = w 2 3 := (hW 2 3 (by decide) (by decide)).trans (by unfold wq; rw [if_pos (by decide)])
  have h24 : W 16 = w 2 4 := (hW 2 4 (by decide) (by decide)).trans (by unfold wq; rw [if_pos (by decide)])
  have h30 : W 18 = w 0 3 := (hW 3 0 (by decide) (by decide)).trans (by unfold wq; rw [if_neg (by decide), if_pos (by decide)])
  have h31 : W 19 = w 1 3 := (hW 3 1 (by decide) (by decide)).trans (by unfold wq; rw [if_neg (by decide), if_pos (by decide)])
  have h32 : W 20 = w 2 3 := (hW 3 2 (by decide) (by decide)).trans (by unfold wq; rw [if_neg (by decide), if_pos (by decide)])
  have h33 : W 21 = 0 := (hW 3 3 (by decide) (by decide)).trans (by unfold wq; rw [if_neg (by decide), if_neg (by decide)])
  have h34 : W 22 = w 3 4 := (hW 3 4 (by decide) (by decide)).trans (by unfold wq; rw [if_pos (by decide)])
  have h40 : W 24 = w 0 4 := (hW 4 0 (by decide) (by decide)).trans (by unfold wq; rw [if_neg (by decide), if_pos (by decide)])
  have h41 : W 25 = w 1 4 := (hW 4 1 (by decide) (by decide)).trans (by unfold wq; rw [if_neg (by decide), if_pos (by decide)])
  have h42 : W 26 = w 2 4 := (hW 4 2 (by decide) (by decide)).trans (by unfold wq; rw [if_neg (by decide), if_pos (by decide)])
  have h43 : W 27 = w 3 4 := (hW 4 3 (by decide) (by decide)).trans (by unfold wq; rw [if_neg (by decide), if_pos (by decide)])
  have h44 : W 28 = 0 := (hW 4 4 (by decide) (by decide)).trans (by unfold wq; rw [if_neg (by decide), if_neg (by decide)])
  rw [eL]
  show d4 (lpl W 5 1 1) (lpl W 5 1 2) (lpl W 5 1 3) (lpl W 5 1 4) (lpl W 5 2 1) (lpl W 5 2 2) (lpl W 5 2 3) (lpl W 5 2 4) (lpl W 5 3 1) (lpl W 5 3 2) (lpl W 5 3 3) (lpl W 5 3 4) (lpl W 5 4 1) (lpl W 5 4 2) (lpl W 5 4 3) (lpl W 5 4 4) = _
  have a11 : lpl W 5 1 1 = ((w 0 1 : Nat) : Int) + ((w 1 2 : Nat) : Int) + ((w 1 3 : Nat) : Int) + ((w 1 4 : Nat) : Int) := by
    show ((0 + W 6 + W 7 + W 8 + W 9 + W 10 : Nat) : Int) = _
    omega
  have a12 : lpl W 5 1 2 = -((w 1 2 : Nat) : Int) := by
    show -((W 8 : Nat) : Int) = _
    omega
  have a13 : lpl W 5 1 3 = -((w 1 3 : Nat) : Int) := by
    show -((W 9 : Nat) : Int) = _
    omega
  have a14 : lpl W 5 1 4 = -((w 1 4 : Nat) : Int) := by
    show -((W 10 : Nat) : Int) = _
    omega
  have a21 : lpl W 5 2 1 = -((w 1 2 : Nat) : Int) := by
    show -((W 13 : Nat) : Int) = _
    omega
  have a22 : lpl W 5 2 2 = ((w 0 2 : Nat) : Int) + ((w 1 2 : Nat) : Int) + ((w 2 3 : Nat) : Int) + ((w 2 4 : Nat) : Int) := by
    show ((0 + W 12 + W 13 + W 14 + W 15 + W 16 : Nat) : Int) = _
    omega
  have a23 : lpl W 5 2 3 = -((w 2 3 : Nat) : Int) := by
    show -((W 15 : Nat) : Int) = _
    omega
  have a24 : lpl W 5 2 4 = -((w 2 4 : Nat) : Int) := by
    show -((W 16 : Nat) : Int) = _
    omega
  have a31 : lpl W 5 3 1 = -((w 1 3 : Nat) : Int) := by
    show -((W 19 : Nat) : Int) = _
    omega
  have a32 : lpl W 5 3 2 = -((w 2 3 : Nat) : Int) := by
    show -((W 20 : Nat) : Int) = _
    omega
  have a33 : lpl W 5 3 3 = ((w 0 3 : Nat) : Int) + ((w 1 3 : Nat) : Int) + ((w 2 3 : Nat) : Int) + ((w 3 4 : Nat) : Int) := by
    show ((0 + W 18 + W 19 + W 20 + W 21 + W 22 : Nat) : Int) = _
    omega
  have a34 : lpl W 5 3 4 = -((w 3 4 : Nat) : Int) := by
    show -((W 22 : Nat) : Int) = _
    omega
  have a41 : lpl W 5 4 1 = -((w 1 4 : Nat) : Int) := by
    show -((W 25 : Nat) : Int) = _
    omega
  have a42 : lpl W 5 4 2 = -((w 2 4 : Nat) : Int) := by
    show -((W 26 : Nat) : Int) = _
    omega
  have a43 : lpl W 5 4 3 = -((w 3 4 : Nat) : Int) := by
    show -((W 27 : Nat) : Int) = _
    omega
  have a44 : lpl W 5 4 4 = ((w 0 4 : Nat) : Int) + ((w 1 4 : Nat) : Int) + ((w 2 4 : Nat) : Int) + ((w 3 4 : Nat) : Int) := by
    show ((0 + W 24 + W 25 + W 26 + W 27 + W 28 : Nat) : Int) = _
    omega
  rw [a11, a12, a13, a14, a21, a22, a23, a24, a31, a32, a33, a34, a41, a42, a43, a44]
theorem trT_5 {S : LT} (hS : S.n = 5) (I : InvL 5 w S (allP 5 5)) (hW : ∀ i j, i < 6 → j < 6 → W (i * 6 + j) = wq w (allP 5 5) i j) : TF S S.e 4 (fun u => u) = lm (rMt W 5 (ascL (unP (2 ^ 5 - 1) 1) 5) (fun _ => 0) (-1)) (ascL (unP (2 ^ 5 - 1) 1) 5).length := by
  rw [TF_list I.2.2.2.2.1 I.2.2.2.2.2 S.e 4 _ (Nat.le_refl _), Nat.sub_self, List.drop_zero, hS, TFl_edl, trW_5 hW]
  have e : (allP 5 5).map (fun p => (p.1, p.2, ((w p.1 p.2 : Nat) : Int))) = [(0, 1, ((w 0 1 : Nat) : Int)), (0, 2, ((w 0 2 : Nat) : Int)), (0, 3, ((w 0 3 : Nat) : Int)), (0, 4, ((w 0 4 : Nat) : Int)), (1, 2, ((w 1 2 : Nat) : Int)), (1, 3, ((w 1 3 : Nat) : Int)), (1, 4, ((w 1 4 : Nat) : Int)), (2, 3, ((w 2 3 : Nat) : Int)), (2, 4, ((w 2 4 : Nat) : Int)), (3, 4, ((w 3 4 : Nat) : Int))] := rfl
  rw [e, tfE_5 ((w 0 1 : Nat) : Int) ((w 0 2 : Nat) : Int) ((w 0 3 : Nat) : Int) ((w 0 4 : Nat) : Int) ((w 1 2 : Nat) : Int) ((w 1 3 : Nat) : Int) ((w 1 4 : Nat) : Int) ((w 2 3 : Nat) : Int) ((w 2 4 : Nat) : Int) ((w 3 4 : Nat) : Int), tfD_5 ((w 0 1 : Nat) : Int) ((w 0 2 : Nat) : Int) ((w 0 3 : Nat) : Int) ((w 0 4 : Nat) : Int) ((w 1 2 : Nat) : Int) ((w 1 3 : Nat) : Int) ((w 1 4 : Nat) : Int) ((w 2 3 : Nat) : Int) ((w 2 4 : Nat) : Int) ((w 3 4 : Nat) : Int)]
theorem fin_tree {n : Nat} (hn : 2 ≤ n ∧ n ≤ 5) {S : LT} (hS : S.n = n) (I : InvL n w S (allP n n)) (hW : ∀ i j, i < 6 → j < 6 → W (i * 6 + j) = wq w (allP n n) i j) (g : gdW W n) : TF S S.e (n - 1) (fun u => u) = trV W n := by
  rw [(tr_all g hn.1).2]
  rcases (show n = 2 ∨ n = 3 ∨ n = 4 ∨ n = 5 by omega) with rfl | rfl | rfl | rfl
  · exact trT_2 hS I hW
  · exact trT_3 hS I hW
  · exact trT_4 hS I hW
  · exact trT_5 hS I hW
end

