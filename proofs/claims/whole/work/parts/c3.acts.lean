/-! ===== changes on both sides ===== -/
theorem sbA_lt {a i p : Nat} (ha : a < 64) (hi : i < 6) : sbA a i p < 64 := by
  unfold sbA
  split
  · exact dif_lt ha
  · exact bs_or_lt (n := 6) ha (p2_64 hi)
section
variable {v : Ev} {h : Hp} {top x : Nat} {Z : CS} {S : MS}
theorem Inv.rel (I : Inv v h top x Z S) : Rel v h top x Z S := I.2.2.2.2
theorem op_setWeight (I : Inv v h top x Z S) (w1 w2 : Int32) : PairB v x mL_setWeight mX11_setWeight [.int w1, .int w2] isI 4 h top := by
  obtain ⟨z1, hz1, rfl⟩ := w_int w1
  obtain ⟨z2, hz2, rfl⟩ := w_int w2
  obtain ⟨cn, cc, hr, hc⟩ := I.cur
  have K := I.1
  have okz := I.okZ
  have hu := I.rel.2.1.2.2.2
  have hM := fun h0 top0 => c_mSetW (v := v) (h := h0) (m := x + 96) (top := top0) hr.1 okz.1 hu hz1 hz2
  by_cases c1 : 0 ≤ z1 ∧ z1 < Z.2.1.e
  rotate_left
  · have e : swT Z.2.1 z1 z2 = 1 := if_neg c1
    rw [e] at hM
    exact mkB (y := 0) I ⟨by omega, by omega, by omega, by omega⟩ (thw I (wE_setWeight_1 K.1.1 (x_setWeight_0 K okz.1 hz1 (by omega))) (xQ I) (by omega)) (refC hM (fun z => absurd z (by omega)) (fun _ S' p => I.rel.per p)) (isI_no (by omega))
  obtain ⟨i, rfl⟩ : ∃ i : Nat, z1 = i := ⟨z1.toNat, by omega⟩
  have hi : i < Z.2.1.e := by omega
  by_cases c2 : 1 ≤ z2 ∧ z2 ≤ 9
  rotate_left
  · have e : swT Z.2.1 (i : Int) z2 = 2 := (if_pos c1).trans (if_neg c2)
    rw [e] at hM
    rw [zI_nat] at hM ⊢
    exact mkB (y := 0) I ⟨by omega, by omega, by omega, by omega⟩ (thw I (wE_setWeight_2 K.1.1 (x_setWeight_1 K okz.1 hi hz2 (by omega))) (xQ I) (by omega)) (refC hM (fun z => absurd z (by omega)) (fun _ S' p => I.rel.per p)) (isI_no (by omega))
  · obtain ⟨j, rfl⟩ : ∃ j : Nat, z2 = j := ⟨z2.toNat, by omega⟩
    have e : swT Z.2.1 (i : Int) (j : Int) = 0 := (if_pos c1).trans (if_pos c2)
    rw [e] at hM
    rw [zI_nat, zI_nat] at hM ⊢
    exact mkB I ⟨by omega, by omega, by omega, by omega⟩ (nrm I (wN_setWeight K.1.1 (c_setWeight K okz hr.2.1.okL hi (by omega)) (oJ I))) (refC hM (fun _ S' c => ch_setW I.rel hi (by omega) c) (fun z => absurd rfl z)) (isI_ok (congrArg nI (hr.1.2.2.2.2.1 i hi).2.2))
theorem op_removeEdge (I : Inv v h top x Z S) (w1 : Int32) : PairB v x mL_removeEdge mX11_removeEdge [.int w1] isI 4 h top := by
  obtain ⟨z1, hz1, rfl⟩ := w_int w1
  obtain ⟨cn, cc, hr, hc⟩ := I.cur
  have K := I.1
  have okz := I.okZ
  have hu := I.rel.2.1.2.2.2
  have hM := fun h0 top0 => c_mRemE (v := v) (h := h0) (m := x + 96) (top := top0) hr.1 okz.1 hu hz1
  by_cases c1 : 0 ≤ z1 ∧ z1 < Z.2.1.e
  rotate_left
  · have e : reT Z.2.1 z1 = 1 := if_neg c1
    rw [e] at hM
    exact mkB (y := 0) I ⟨by omega, by omega, by omega, by omega⟩ (thw I (wE_removeEdge_1 K.1.1 (x_removeEdge_0 K okz.1 hz1 (by omega))) (xQ I) (by omega)) (refC hM (fun z => absurd z (by omega)) (fun _ S' p => I.rel.per p)) (isI_no (by omega))
  · obtain ⟨i, rfl⟩ : ∃ i : Nat, z1 = i := ⟨z1.toNat, by omega⟩
    have hi : i < Z.2.1.e := by omega
    have e : reT Z.2.1 (i : Int) = 0 := if_pos c1
    rw [e] at hM
    rw [zI_nat] at hM ⊢
    exact mkB I ⟨by omega, by omega, by omega, by omega⟩ (nrm I (wN_removeEdge K.1.1 (c_removeEdge K okz hr.2.1.okL hi) (oJ I))) (refC hM (fun _ S' c => ch_rmE I.rel hi c) (fun z => absurd rfl z)) (isI_ok rfl)
theorem op_setAbsorbing (I : Inv v h top x Z S) {p : Nat} (hp2 : p ≤ 1) (w1 : Int32) : PairB v x mL_setAbsorbing mX11_setAbsorbing [.int w1, .int (nI p)] isI 6 h top := by
  obtain ⟨z1, hz1, rfl⟩ := w_int w1
  obtain ⟨cn, cc, hr, hc⟩ := I.cur
  have K := I.1
  have okz := I.okZ
  have n6 := okz.1.1
  have hu := I.rel.2.1.2.2.2
  have hM := fun h0 top0 => c_mSetA (v := v) (h := h0) (m := x + 96) (top := top0) hr hu hz1 hp2
  rcases vt_cases Z.2.1 z1 with ⟨i, rfl, hi, e⟩ | ⟨hk, e⟩
  rotate_left
  · rw [e] at hM
    exact mkB (y := 0) I ⟨by omega, by omega, by omega, by omega⟩ (thw I (wE_setAbsorbing_1 K.1.1 (x_setAbsorbing_0 K okz.1 hz1 hk)) (xQ I) (by omega)) (refC hM (fun z => absurd z (by omega)) (fun _ S' p => I.rel.per p)) (isI_no (by omega))
  · rw [e] at hM
    rw [zI_nat] at hM ⊢
    exact mkB I ⟨by omega, by omega, by omega, by omega⟩ (nrm I (wN_setAbsorbing K.1.1 (c_setAbs K okz hi hp2) (oJ I))) (refC hM (fun _ S' c => ch_abs I.rel (sbA_lt okz.1.2.2.1 (by omega)) c) (fun z => absurd rfl z)) (isI_ok rfl)
theorem op_join (I : Inv v h top x Z S) (w1 w2 : Int32) : PairB v x mL_join mX11_join [.int w1, .int w2] isI 6 h top := by
  obtain ⟨z1, hz1, rfl⟩ := w_int w1
  obtain ⟨z2, hz2, rfl⟩ := w_int w2
  obtain ⟨cn, cc, hr, hc⟩ := I.cur
  have K := I.1
  have okz := I.okZ
  have hu := I.rel.2.1.2.2.2
  have hM := fun h0 top0 => c_mJoin (v := v) (h := h0) (m := x + 96) (top := top0) hr hu hz1 hz2
  rcases vt_cases Z.2.1 z1 with ⟨i, rfl, hi, e1⟩ | ⟨hk, e1⟩
  rotate_left
  · rw [if_neg (show ¬ vtT Z.2.1 z1 = 0 by omega)] at hM
    exact mkB (y := 0) I ⟨by omega, by omega, by omega, by omega⟩ (thw I (wE_join_1 K.1.1 (x_join_0 K okz.1 hz1 hk)) (xQ I) (by omega)) (refC hM (fun z => absurd z (by omega)) (fun _ S' p => I.rel.per p)) (isI_no (by omega))
  rw [if_pos e1] at hM
  rcases vt_cases Z.2.1 z2 with ⟨j, rfl, hj, e2⟩ | ⟨hk, e2⟩
  rotate_left
  · rw [e2] at hM
    rw [zI_nat] at hM ⊢
    exact mkB (y := 0) I ⟨by omega, by omega, by omega, by omega⟩ (thw I (wE_join_1 K.1.1 (x_join_1 K okz.1 hi hz2 hk)) (xQ I) (by omega)) (refC hM (fun z => absurd z (by omega)) (fun _ S' p => I.rel.per p)) (isI_no (by omega))
  · rw [e2] at hM
    rw [zI_nat, zI_nat] at hM ⊢
    have F := rwF_join (f := S.rw) (i := i) (j := j) hr.1.2 okz.1 hi hj
    have eb : bkM (fun k => nbF (jnF S.rw i j Z.2.1.n) (49 + k)) Z.2.1.n = (Z.2.1.unite i j).b := (bkM_cong Z.2.1.n (fun k hk => F.2.2.2.2 k hk)).trans (GT.num_can (G := Z.2.1.sB (unB Z.2.1.B i j Z.2.1.n))).bk
    exact mkB I ⟨by omega, by omega, by omega, by omega⟩ (nrm I (wN_join K.1.1 (c_join K okz hi hj) (oJ I))) (refC hM (fun _ S' c => ch_join I.rel hi hj c) (fun z => absurd rfl z)) (isI_ok (congrArg nI eb))
theorem op_separate (I : Inv v h top x Z S) (w1 : Int32) : PairB v x mL_separate mX11_separate [.int w1] isI 6 h top := by
  obtain ⟨z1, hz1, rfl⟩ := w_int w1
  obtain ⟨cn, cc, hr, hc⟩ := I.cur
  have K := I.1
  have okz := I.okZ
  have hu := I.rel.2.1.2.2.2
  have hM := fun h0 top0 => c_mSepa (v := v) (h := h0) (m := x + 96) (top := top0) hr hu hz1
  rcases vt_cases Z.2.1 z1 with ⟨i, rfl, hi, e1⟩ | ⟨hk, e1⟩
  rotate_left
  · rw [e1] at hM
    exact mkB (y := 0) I ⟨by omega, by omega, by omega, by omega⟩ (thw I (wE_separate_1 K.1.1 (x_separate_0 K okz.1 hz1 hk)) (xQ I) (by omega)) (refC hM (fun z => absurd z (by omega)) (fun _ S' p => I.rel.per p)) (isI_no (by omega))
  · rw [e1] at hM
    rw [zI_nat] at hM ⊢
    have F := rwF_sepa (f := S.rw) (i := i) hr.1.2 okz.1 hi
    have eb : bkM (fun k => nbF (upN S.rw (49 + i) 6) (49 + k)) Z.2.1.n = (Z.2.1.isol i).b := (bkM_cong Z.2.1.n (fun k hk => F.2.2.2.2 k hk)).trans (GT.num_can (G := Z.2.1.sB (upN Z.2.1.B i 6))).bk
    exact mkB I ⟨by omega, by omega, by omega, by omega⟩ (nrm I (wN_separate K.1.1 (c_separate K okz hi) (oJ I))) (refC hM (fun _ S' c => ch_sepa I.rel hi c) (fun z => absurd rfl z)) (isI_ok (congrArg nI eb))
theorem op_addEdge (I : Inv v h top x Z S) (w1 w2 w3 : Int32) : PairB v x mL_addEdge mX11_addEdge [.int w1, .int w2, .int w3] isI 6 h top := by
  obtain ⟨z1, hz1, rfl⟩ := w_int w1
  obtain ⟨z2, hz2, rfl⟩ := w_int w2
  obtain ⟨z3, hz3, rfl⟩ := w_int w3
  obtain ⟨cn, cc, hr, hc⟩ := I.cur
  have K := I.1
  have okz := I.okZ
  have hu := I.rel.2.1.2.2.2
  have hM := fun h0 top0 => c_mAddE (v := v) (h := h0) (m := x + 96) (top := top0) hr hu hz1 hz2 hz3
  rcases vt_cases Z.2.1 z1 with ⟨i, rfl, hi, e1⟩ | ⟨hk, e1⟩
  rotate_left
  · have e : aeT Z.2.1 z1 z2 z3 = 1 := if_neg (by omega)
    rw [e] at hM
    exact mkB (y := 0) I ⟨by omega, by omega, by omega, by omega⟩ (thw I (wE_addEdge_1 K.1.1 (x_addEdge_0 K okz.1 hz1 hk)) (xQ I) (by omega)) (refC hM (fun z => absurd z (by omega)) (fun _ S' p => I.rel.per p)) (isI_no (by omega))
  rcases vt_cases Z.2.1 z2 with ⟨j, rfl, hj, e2⟩ | ⟨hk, e2⟩
  rotate_left
  · have e : aeT Z.2.1 (i : Int) z2 z3 = 1 := (if_pos e1).trans (if_neg (by omega))
    rw [e] at hM
    rw [zI_nat] at hM ⊢
    exact mkB (y := 0) I ⟨by omega, by omega, by omega, by omega⟩ (thw I (wE_addEdge_1 K.1.1 (x_addEdge_1 K okz.1 hi hz2 hk)) (xQ I) (by omega)) (refC hM (fun z => absurd z (by omega)) (fun _ S' p => I.rel.per p)) (isI_no (by omega))
  by_cases c3 : (i : Int) ≠ (j : Int) ∧ (1 ≤ z3 ∧ z3 ≤ 9)
  rotate_left
  · have e : aeT Z.2.1 (i : Int) (j : Int) z3 = 2 := (if_pos e1).trans ((if_pos e2).trans (if_neg c3))
    rw [e] at hM
    rw [zI_nat, zI_nat] at hM ⊢
    by_cases c4 : i = j
    · exact mkB (y := 0) I ⟨by omega, by omega, by omega, by omega⟩ (thw I (wE_addEdge_2 K.1.1 (x_addEdge_2 K okz.1 hi hj c4)) (xQ I) (by omega)) (refC hM (fun z => absurd z (by omega)) (fun _ S' p => I.rel.per p)) (isI_no (by omega))
    · exact mkB (y := 0) I ⟨by omega, by omega, by omega, by omega⟩ (thw I (wE_addEdge_2 K.1.1 (x_addEdge_3 K okz.1 hi hj c4 hz3 (by omega))) (xQ I) (by omega)) (refC hM (fun z => absurd z (by omega)) (fun _ S' p => I.rel.per p)) (isI_no (by omega))
  obtain ⟨k, rfl⟩ : ∃ k : Nat, z3 = k := ⟨z3.toNat, by omega⟩
  have hk : 1 ≤ k ∧ k ≤ 9 := by omega
  have hne : i ≠ j := by omega
  by_cases c4 : Z.2.1.W (i * 6 + j) = 0
  rotate_left
  · have e : aeT Z.2.1 (i : Int) (j : Int) (k : Int) = 3 := (if_pos e1).trans ((if_pos e2).trans ((if_pos c3).trans (if_neg c4)))
    rw [e] at hM
    rw [zI_nat, zI_nat, zI_nat] at hM ⊢
    exact mkB (y := 0) I ⟨by omega, by omega, by omega, by omega⟩ (thw I (wE_addEdge_3 K.1.1 (x_addEdge_4 K okz.1 hi hj hne hk c4)) (xQ I) (by omega)) (refC hM (fun z => absurd z (by omega)) (fun _ S' p => I.rel.per p)) (isI_no (by omega))
  · have e : aeT Z.2.1 (i : Int) (j : Int) (k : Int) = 0 := (if_pos e1).trans ((if_pos e2).trans ((if_pos c3).trans (if_pos c4)))
    rw [e] at hM
    rw [zI_nat, zI_nat, zI_nat] at hM ⊢
    have room := wf_room hr.2.1 hi hj hne c4
    exact mkB I ⟨by omega, by omega, by omega, by omega⟩ (nrm I (wN_addEdge K.1.1 (c_addEdge K okz (by omega) hi hj hne hk c4) (oJ I))) (refC hM (fun _ S' c => ch_addE I.rel hi hj hne c4 hk c) (fun z => absurd rfl z)) (isI_ok rfl)
/-- load -/
theorem op_load (I : Inv v h top x Z S) (w1 : Int32) : PairB v x mL_load mX11_load [.int w1] isI 25 h top := by
  obtain ⟨z1, hz1, rfl⟩ := w_int w1
  have K := I.1
  have okz := I.okZ
  have R0 := I.rel
  have ht := I.2.2.2.1.1
  obtain ⟨⟨a1, a2, a3, a4, a5⟩, ⟨b1, b2, b3, b4⟩, -⟩ := id R0
  by_cases c1 : 0 ≤ z1 ∧ z1 ≤ S.byt
  rotate_left
  · have e : ldT S z1 = 1 := if_neg c1
    refine ⟨1, 0, 8, 1, 6, EX v h top x Z, ⟨by omega, by omega, by omega, by omega⟩, thw I (wE_load_1 K.1.1 (x_load_0 K okz.2.2.2.2 hz1 (by omega))) (xQ I) (by omega), fun h1 top1 ex => ⟨ex.mo I, ?_⟩⟩
    have k := c_mLoad (v := v) (h := h1) (m := x + 96) (top := top1) b1 b4 a4 a5 hz1 (fun z => absurd z (by omega))
    rw [ex.mid I] at k
    refine k.mono ?_
    rintro r h2 top2 ⟨⟨y, q1, -⟩, q2, S', q3, q4, q5, -, -⟩
    subst q3 q2
    rw [e] at q4 q5
    exact ⟨_, q1, ⟨y, rfl, fun z => absurd z (by omega)⟩, rfl, mH_out (by omega), Z, S', I.fin ex ((R0.per (q5 (by omega))).frame ex.fr ex.1), q4⟩
  · obtain ⟨len, rfl⟩ : ∃ i : Nat, z1 = i := ⟨z1.toNat, by omega⟩
    have hl : len ≤ S.byt := by omega
    have e : ldT S (len : Int) = 0 := if_pos c1
    rw [zI_nat]
    obtain ⟨yv, hyv⟩ : ∃ yv : Int32, yv = zI (if (S.ldX len).err = 0 then ((S.ldX len).red 1 : Nat) else (S.ldX len).err) := ⟨_, rfl⟩
    obtain ⟨Q, hQ⟩ : ∃ Q : Hp → Nat → Prop, Q = fun h' top' => ∃ R1 : RD, ldH Z len R1 ∧ okX v h' x (ldZ Z (rdSetup v top R1)) ∧ okR (rdSetup v top R1).2 ∧
      ((top' = top ∧ frX h h' x ∧ ((rdSetup v top R1).1 = true → (rdSetup v top R1).2.hc = 0)) ∨
       (top' = top + 1 ∧ (∀ a, (a < x ∨ x + 96 ≤ a) → a ≠ top → h' a = h a) ∧ ((rdSetup v top R1).1 = true → (rdSetup v top R1).2.hc = 1 ∧ h' top = some (aI v (rdSetup v top R1).2.cl (sF (cdC (rdSetup v top R1).2)))))) := ⟨_, rfl⟩
    have cl : Cal v mX10_load 10 1 600 [.ref x, .int (nI len)] h top (fun r h' top' => r = some (.int yv) ∧ Q h' top') noX := by
      refine (c_load K okz (by rw [a2]; exact a5) (by omega) (by omega)).mono ?_
      rintro r h' top' ⟨R1, q1, q2, q3, q4, q5, q6, q7⟩
      have H : ldH Z len R1 := ⟨q1, q2, q3⟩
      refine ⟨?_, ?_⟩
      · rw [q4, hyv, ld_ans (v := v) (F := top) R0 hl H]
      · rw [hQ]
        exact ⟨R1, H, q5, q6, q7⟩
    have ho : ∀ h' top', Q h' top' → ∃ fo, h' (x + 110) = some (aJ v 1 fo) := by
      rw [hQ]
      rintro h' top' ⟨R1, -, -, -, q⟩
      obtain ⟨-, -, ⟨⟨fo, hfo⟩, -⟩, -⟩ := I
      rcases q with ⟨-, f, -⟩ | ⟨-, f, -⟩
      · exact ⟨fo, (f _ (by omega)).trans hfo⟩
      · exact ⟨fo, (f _ (by omega) (by omega)).trans hfo⟩
    refine ⟨0, yv.toInt64, 11, 1, 600, fun h1 top1 => ∃ h' fo, Q h' top1 ∧ h1 = hp h' (x + 110) (aJ v 1 (vp_updL fo 0 yv.toInt64)), ⟨by omega, by omega, by omega, by omega⟩, (wN_load K.1.1 cl ho).mono ?_, ?_⟩
    · rintro r h1 top1 ⟨q1, h', fo, q2, q3, rfl⟩
      exact ⟨q1, ⟨h', fo, q2, rfl⟩, _, hp_eq _ _ _, fun _ => if_pos rfl⟩
    · rintro h1 top1 ⟨h', fo, q, rfl⟩
      rw [hQ] at q
      obtain ⟨R1, H, q5, q6, q7⟩ := q
      have tt : top ≤ top1 := by rcases q7 with ⟨z, -⟩ | ⟨z, -⟩ <;> omega
      have fr' : ∀ a, (a < x ∨ (x + 96 ≤ a ∧ a < top)) → h' a = h a := by
        intro a ha
        rcases q7 with ⟨-, f, -⟩ | ⟨-, f, -⟩
        · exact f a (by omega)
        · exact f a (by omega) (by omega)
      have ex : EX v h top x (ldZ Z (rdSetup v top R1)) (hp h' (x + 110) (aJ v 1 (vp_updL fo 0 yv.toInt64))) top1 := by
        obtain ⟨-, -, ⟨-, fd, hfd⟩, -⟩ := I
        exact ⟨tt, q5.frame (fun a _ _ => hp_ne _ _ (by omega)), fun a ha n1 n2 => (hp_ne _ _ n1).trans (fr' a ha), ⟨_, hp_eq _ _ _⟩, fd, (hp_ne _ _ (by omega)).trans ((fr' _ (by omega)).trans hfd)⟩
      have hq1 : (rdSetup v top R1).1 = true → (rdSetup v top R1).2.hc = 0 ∨ ((rdSetup v top R1).2.hc = 1 ∧ (x + 112 ≤ top ∧ top < top1) ∧ h' top = some (aI v (rdSetup v top R1).2.cl (sF (cdC (rdSetup v top R1).2)))) := by
        intro t
        rcases q7 with ⟨-, -, g⟩ | ⟨z, -, g⟩
        · exact Or.inl (g t)
        · exact Or.inr ⟨(g t).1, ⟨by omega, by omega⟩, (g t).2⟩
      have hht : (hp h' (x + 110) (aJ v 1 (vp_updL fo 0 yv.toInt64))) top = h' top := hp_ne _ _ (by omega)
      clear q7 fr' hQ ho cl
      generalize hp h' (x + 110) (aJ v 1 (vp_updL fo 0 yv.toInt64)) = hh at ex hht
      refine ⟨ex.mo I, ?_⟩
      have k := c_mLoad (v := v) (h := hh) (m := x + 96) (top := top1) b1 b4 a4 a5 hz1 (fun _ z => ld_ask R0 hl H z)
      rw [ex.mid I, zI_nat] at k
      refine k.mono ?_
      rintro r h2 top2 ⟨⟨y, p1, p2⟩, p3, S', p4, p5, -, p6, p7⟩
      subst p4 p3
      have rel : Rel v (mH v hh (x + 96) S') top1 x (ldZ Z (rdSetup v top R1)) S' := by
        by_cases cc : (S.ldX len).err = 0
        · refine ld_good R0 hl H cc (p7 e cc) ex.fr ex.1 I.2.2.2.1.2 q6 ?_
          have t : (rdSetup v top R1).1 = true := by
            rcases ld_sim (F := top) R0 hl H with f | f
            · exact f.1
            · exact absurd cc f.err
          rcases hq1 t with g | ⟨g1, g2, g3⟩
          · exact Or.inl g
          · exact Or.inr ⟨g1, g2, (mH_out (by omega)).trans (hht.trans g3)⟩
        · exact ld_bad R0 hl H cc (p6 e cc) ex.fr ex.1
      exact ⟨_, p1, ⟨y, rfl, fun _ => by rw [p2 e, hyv]; rfl⟩, rfl, mH_out (by omega), _, S', I.fin ex rel, p5.trans e⟩
/-- after: the double's stand -/
def PairD (v : Ev) (x : Nat) (as : List Value) (h : Hp) (top : Nat) : Prop :=
  ∃ (t : Nat) (y : UInt32) (d mc ms : Nat) (E : Hp → Nat → Prop), (t ≤ 3 ∧ d ≤ 11 ∧ mc ≤ 1 ∧ ms ≤ 600) ∧ P32 y ∧
    Cal v mL_after d mc ms (.ref x :: (as ++ [.ref (x + 111)])) h top (fun r h1 top1 => r = some (.int (nI t)) ∧ E h1 top1 ∧ ∃ fd, h1 (x + 111) = some (aD v 1 fd) ∧ (t = 0 → fd 0 = FP.f2d y)) noX ∧
    ∀ h1 top1, E h1 top1 → (∃ fs, h1 (x + 96) = some (ob 11 fs)) ∧ Cal v mX11_after 6 0 0 (.ref (x + 96) :: as) h1 top1 (fun r h2 top2 => ∃ w, r = some (.float w) ∧ (t = 0 → w = y) ∧ P32 w ∧ top1 = top2 ∧ h2 (x + 111) = h1 (x + 111) ∧ ∃ Z' S', Inv v h2 top2 x Z' S' ∧ S'.thr = t) noX
theorem op_after (I : Inv v h top x Z S) (w1 w2 w3 : Int32) : PairD v x [.int w1, .int w2, .int w3] h top := by
  obtain ⟨z1, hz1, rfl⟩ := w_int w1
  obtain ⟨z2, hz2, rfl⟩ := w_int w2
  obtain ⟨z3, hz3, rfl⟩ := w_int w3
  obtain ⟨cn, cc, hr, hc⟩ := I.cur
  have K := I.1
  have okz := I.okZ
  have n6 := okz.1.1
  have ref : ∀ t y, P32 y → (afT Z.2.1 z1 z2 z3 = t) → (t = 0 → flN Z.2.1.W Z.2.1.n z1.toNat z3.toNat z2.toNat = y) → ∀ h1 top1, EX v h top x Z h1 top1 → (∃ fs, h1 (x + 96) = some (ob 11 fs)) ∧ Cal v mX11_after 6 0 0 (.ref (x + 96) :: [.int (zI z1), .int (zI z2), .int (zI z3)]) h1 top1 (fun r h2 top2 => ∃ w, r = some (.float w) ∧ (t = 0 → w = y) ∧ P32 w ∧ top1 = top2 ∧ h2 (x + 111) = h1 (x + 111) ∧ ∃ Z' S', Inv v h2 top2 x Z' S' ∧ S'.thr = t) noX := by
    intro t y hP ht hy h1 top1 ex
    refine ⟨ex.mo I, ?_⟩
    have k := c_mAfter (v := v) (h := h1) (m := x + 96) (top := top1) hr hz1 hz2 hz3
    rw [ex.mid I, ht] at k
    refine k.mono ?_
    rintro r h2 top2 ⟨⟨w, q1, q2, q3⟩, q4, S', q5, q6, q7⟩
    subst q5 q4
    exact ⟨w, q1, fun z => (q2 z).trans (hy z), q3, rfl, mH_out (by omega), Z, S', I.fin ex ((I.rel.per q6).frame ex.fr ex.1), q7⟩
  have thr : ∀ {d mc ms t : Nat} {Q : Hp → Nat → Prop}, t ≤ 3 ∧ d ≤ 11 ∧ mc ≤ 1 ∧ ms ≤ 600 → afT Z.2.1 z1 z2 z3 = t → t ≠ 0 → Cal v mL_after d mc ms (.ref x :: ([.int (zI z1), .int (zI z2), .int (zI z3)] ++ [.ref (x + 111)])) h top (fun r h' top' => r = some (.int (nI t)) ∧ Q h' top') noX → (∀ h' top', Q h' top' → okX v h' x Z ∧ frX h h' x ∧ top ≤ top') → PairD v x [.int (zI z1), .int (zI z2), .int (zI z3)] h top := by
    intro d mc ms t Q hb ht h0 hC hQ
    refine ⟨t, 0, d, mc, ms, EX v h top x Z, hb, Nat.zero_le _, hC.mono ?_, ref t 0 (Nat.zero_le _) ht (fun z => absurd z h0)⟩
    rintro r h' top' ⟨q1, q⟩
    obtain ⟨q2, q3, q4⟩ := hQ _ _ q
    obtain ⟨-, -, ⟨⟨fo, hfo⟩, fd, hfd⟩, ⟨hx, -⟩, -⟩ := I
    exact ⟨q1, ⟨q4, q2, fun a ha _ _ => q3 a (by omega), ⟨fo, (q3 _ (by omega)).trans hfo⟩, fd, (q3 _ (by omega)).trans hfd⟩, fd, (q3 _ (by omega)).trans hfd, fun z => absurd z h0⟩
  rcases vt_cases Z.2.1 z1 with ⟨i, rfl, hi, e1⟩ | ⟨hk, e1⟩
  rotate_left
  · exact thr (t := 1) ⟨by omega, by omega, by omega, by omega⟩ (if_neg (by omega)) (by omega) (wE_after_1 K.1.1 (x_after_0 K okz.1 hz1 hk)) (xQ I)
  rcases vt_cases Z.2.1 z2 with ⟨j, rfl, hj, e2⟩ | ⟨hk, e2⟩
  rotate_left
  · refine thr (t := 1) (d := 8) (mc := 1) (ms := 6) ⟨by omega, by omega, by omega, by omega⟩ ((if_pos e1).trans (if_neg (by omega))) (by omega) ?_ (xQ I)
    rw [zI_nat]
    exact wE_after_1 K.1.1 (x_after_1 K okz.1 hi hz2 hk)
  by_cases c3 : 0 ≤ z3 ∧ z3 ≤ 100
  rotate_left
  · refine thr (t := 2) (d := 8) (mc := 1) (ms := 6) ⟨by omega, by omega, by omega, by omega⟩ ((if_pos e1).trans ((if_pos e2).trans (if_neg c3))) (by omega) ?_ (xQ I)
    rw [zI_nat, zI_nat]
    exact wE_after_2 K.1.1 (x_after_2 K okz.1 hi hj hz3 (by omega))
  · obtain ⟨k, rfl⟩ : ∃ k : Nat, z3 = k := ⟨z3.toNat, by omega⟩
    have hP : P32 (flN Z.2.1.W Z.2.1.n i k j) := flN_P n6 okz.1.2.2.2.2 k j hj
    refine ⟨0, flN Z.2.1.W Z.2.1.n i k j, 8, 0, 0, EX v h top x Z, ⟨by omega, by omega, by omega, by omega⟩, hP, ?_, ref 0 _ hP ((if_pos e1).trans ((if_pos e2).trans (if_pos c3))) (fun _ => rfl)⟩
    rw [zI_nat, zI_nat, zI_nat]
    have oD : ∀ h' top', (top = top' ∧ okX v h' x Z ∧ frX h h' x) → ∃ fo, h' (x + 111) = some (aD v 1 fo) := by
      rintro h' top' ⟨q1, q2, q3⟩
      obtain ⟨-, -, ⟨-, fd, hfd⟩, -⟩ := I
      exact ⟨fd, (q3 _ (by omega)).trans hfd⟩
    refine (wN_after (P32_d64 hP) K.1.1 (c_afterQ K okz hi hj (by omega)) oD).mono ?_
    rintro r h' top' ⟨q1, h1, fo, ⟨q2, q3, q4⟩, q5, rfl⟩
    subst q2
    obtain ⟨-, -, ⟨⟨fj, hfj⟩, -⟩, ⟨ht, -⟩, -⟩ := I
    exact ⟨q1, ⟨Nat.le_refl _, q3.frame (fun a _ _ => hp_ne _ _ (by omega)), fun a ha n1 n2 => (hp_ne _ _ n2).trans (q4 a (by omega)), ⟨fj, (hp_ne _ _ (by omega)).trans ((q4 _ (by omega)).trans hfj)⟩, _, hp_eq _ _ _⟩, _, hp_eq _ _ _, fun _ => if_pos rfl⟩
end

