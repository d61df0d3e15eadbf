/-! ===== statements on both sides: what lines leave alone ===== -/
section
variable {S : MS}
theorem el3_k : S.el3.hco = S.hco ∧ S.el3.nst = S.nst := by
  have a : S.rvS.rvS.hco = S.hco := (rdS_red (S := S.rvS)).2.1.trans (rdS_red (S := S)).2.1
  have b : S.rvS.rvS.nst = S.nst := (rdS_red (S := S.rvS)).2.2.trans (rdS_red (S := S)).2.2
  unfold MS.el3
  split
  · exact ⟨fls_red.2.1.trans a, fls_red.2.2.trans b⟩
  · exact ⟨a, b⟩
theorem el_hco : S.elS.hco = S.hco := by
  have a : S.el4.hco = S.hco := (rdS_red (S := S.el3)).2.1.trans el3_k.1
  unfold MS.elS
  split
  · exact a
  · exact a
theorem ab_hco : S.abL.hco = S.hco := by
  have a : S.rvS.hco = S.hco := (rdS_red (S := S)).2.1
  have b : S.ab2.hco = S.hco := by
    unfold MS.ab2
    split
    · exact fls_red.2.1.trans a
    · exact a
  unfold MS.abL
  split
  · exact b
  · exact b
theorem jn_hco : S.jnL.hco = S.hco := by
  have a : S.rvS.rvS.hco = S.hco := (rdS_red (S := S.rvS)).2.1.trans (rdS_red (S := S)).2.1
  unfold MS.jnL
  split
  · exact a
  · exact a
end

