/-! ===== what holds at the law's entry ===== -/
/-- the words of the private methods that are called on a StringBuilder, out of the tables' words -/
theorem sb_hts {s : State} {args : Array Value} (h : ∀ w ∈ k2_sels lw_privs ++ tables_1, w.before args s = true) : ∀ w ∈ lw_tbl, w.before args s = true := by
  have at1 : ∀ (i : Nat) (w : Cond), (k2_sels lw_privs ++ tables_1)[i]? = some w → w.before args s = true := fun i w hi => h w (List.mem_of_getElem? hi)
  have hz : (Cond.selects "java/lang/StringBuilder" ⟨"java/lang/AbstractStringBuilder", "isLatin1", "()Z"⟩ ⟨"java/lang/AbstractStringBuilder", "isLatin1", "()Z"⟩).before args s = true := at1 1091 _ (by decide +kernel)
  have h1 : ∀ y : MethodName, y.cls = "java/lang/AbstractStringBuilder" → (Cond.privateMethod y).before args s = true → (Cond.instanceMethod y).before args s = true → (Cond.selects "java/lang/StringBuilder" y y).before args s = true := fun y hy hp hi => sb_selp (by rw [hy]; exact ⟨by decide, by decide⟩) hy hz hp hi
  intro w hw
  rcases List.mem_append.mp hw with hw | hw
  · exact h w hw
  · unfold sb_sels sb_ys at hw
    simp only [List.map_cons, List.map_nil, List.mem_cons, List.not_mem_nil, or_false] at hw
    rcases hw with rfl | rfl | rfl | rfl
    · exact h1 _ rfl (at1 1065 _ (by decide +kernel)) (at1 1066 _ (by decide +kernel))
    · exact h1 _ rfl (at1 1069 _ (by decide +kernel)) (at1 1070 _ (by decide +kernel))
    · exact h1 _ rfl (at1 1109 _ (by decide +kernel)) (at1 1110 _ (by decide +kernel))
    · exact h1 _ rfl (at1 1113 _ (by decide +kernel)) (at1 1114 _ (by decide +kernel))
theorem rd_in : ∀ i : Nat, stRead i = true → i ∈ rdL16 := by
  have h0 : ∀ i : Nat, i < 22 → stRead i = true → i ∈ rdL16 := by decide +kernel
  intro i h
  by_cases c : i < 22
  · exact h0 i c h
  · have e : stTab[i]? = none := List.getElem?_eq_none_iff.mpr (by have : stTab.length = 22 := by decide +kernel
                                                                   omega)
    unfold stRead at h
    rw [e] at h
    cases h
theorem cl_in : ∀ (k : Nat) (r : vw_C), vwCl[k]? = some r → ∀ w ∈ u_ws r.1 r.2.1 r.2.2, w ∈ big := by
  have h : ∀ r ∈ vwCl, ∀ w ∈ u_ws r.1 r.2.1 r.2.2, w ∈ big := by
    refine List.forall_mem_cons.mpr ⟨clkX0.2.1, List.forall_mem_cons.mpr ⟨clkX1.2.1, List.forall_mem_cons.mpr ⟨clkX2.2.1, List.forall_mem_cons.mpr ⟨clkX3.2.1, List.forall_mem_cons.mpr ⟨clkX4.2.1, List.forall_mem_cons.mpr ⟨clkX5.2.1, List.forall_mem_cons.mpr ⟨clkX6.2.1, List.forall_mem_cons.mpr ⟨clkX7.2.1, List.forall_mem_cons.mpr ⟨clkX8.2.1, List.forall_mem_cons.mpr ⟨clkX9.2.1, List.forall_mem_cons.mpr ⟨clkX10.2.1, List.forall_mem_cons.mpr ⟨clkJ0.2.1, List.forall_mem_cons.mpr ⟨clkJ4.2.1, List.forall_mem_cons.mpr ⟨clkL.2.1, fun _ h => absurd h List.not_mem_nil⟩⟩⟩⟩⟩⟩⟩⟩⟩⟩⟩⟩⟩⟩
  exact fun k r hk => h r (List.mem_of_getElem? hk)
/-- an array class -/
theorem ac_known {s : State} {args : Array Value} {t : FieldType} (h : (Cond.arrayClass t).before args s = true) (ht : ∀ n, t ≠ .object n) : ∃ cA : ClassId, ArrOfT s cA t ∧ va_RA s cA t := by
  obtain ⟨cA, kA, comp, h1, h2, h3⟩ := Cond.arrayClass_spec h
  refine ⟨cA, fun n z => ⟨fun k h => (by cases h), kA, h2, comp, h3⟩, ?_⟩
  cases t with
  | object n => exact absurd rfl (ht n)
  | _ => exact h1
/-- the script as the picture has it -/
theorem scr_nI (x : Int32) : nI x.toBitVec.toNat = x := by
  apply Int32.toBitVec_inj.mp
  apply BitVec.eq_of_toNat_eq
  show (BitVec.ofNat 32 x.toBitVec.toNat).toNat = _
  rw [BitVec.toNat_ofNat]
  exact Nat.mod_eq_of_lt x.toBitVec.isLt
theorem start_env {p : Program} {s : State} {m : MethodId} {meth : Method} {c : Code} {b L : Nat} {xs : Nat → Int32} (hL : L ≤ 260) (C0 : lw_At p s m meth c b L xs) : ∃ v : Ev, z0 v = s.heap.size ∧ oA v 98 = b ∧ scN v = L ∧ Bs v s := by
  obtain ⟨hx, hb, hr, hml, hown, hts, hX, hbl, hlocks, hgv, -, -⟩ := C0
  have hs : ∀ {w : Cond} (p : List Bool), pkC p NAR = w → w.before #[Value.ref b] s = true := fun p e => by
    rw [← e]
    exact pkC_ok p NAR hgv
  have hA : ∀ a : Nat, a < s.heap.size → ¬ (fun q : Nat => s.heap.size ≤ q) a := fun a ha => Nat.not_le.mpr ha
  have hcl : ∀ k : Nat, ∃ q : ClassId × (Nat → Nat), ∀ r, vwCl[k]? = some r → u_Kn s r.1 r.2.1 r.2.2 q.1 q.2 := by
    intro k
    cases hk : vwCl[k]? with
    | none => exact ⟨(0, fun _ => 0), fun r h => by cases h⟩
    | some r =>
      obtain ⟨cC, iS, h⟩ := u_known (C := r.1) (T := r.2.1) (N := r.2.2) (n := r.2.2) hts (fun w hw => big_in (cl_in k r hk w hw)) (hts _ (List.mem_of_getElem? ((tb_in k (List.getElem?_eq_some_iff.mp hk).1).trans (by rw [hk]; rfl))))
      exact ⟨(cC, iS), fun r' h' => by cases h'; exact h⟩
  obtain ⟨D, hD⟩ := Classical.axiomOfChoice hcl
  obtain ⟨c0, a0⟩ := ac_known (t := .int) (hts _ (big_in ac_int)) (fun n z => by cases z)
  obtain ⟨c1, a1⟩ := ac_known (t := .long) (hts _ (big_in ac_long)) (fun n z => by cases z)
  obtain ⟨c2, a2⟩ := ac_known (t := .float) (hts _ (big_in ac_float)) (fun n z => by cases z)
  obtain ⟨c3, a3⟩ := ac_known (t := .byte) (hts _ (big_in ac_byte)) (fun n z => by cases z)
  obtain ⟨c4, a4⟩ := ac_known (t := .boolean) (hts _ (big_in ac_boolean)) (fun n z => by cases z)
  have hAO : (Cond.arrayOver (.object "RandomWalks$Graph")).before #[Value.ref b] s = true := hts _ (List.mem_of_getElem? (i := 143) (by decide +kernel))
  obtain ⟨comp, c5, k5, g1, g2, g3, g4, g5⟩ := Cond.arrayOver_spec hAO
  have a5 : ArrOfT s c5 (.object "RandomWalks$Graph") ∧ va_RA s c5 (.object "RandomWalks$Graph") := ⟨fun n z => ⟨fun k h => (by cases h), k5, g3, comp, g4⟩, k5, comp, g3, g4, g1, g5⟩
  have hAI : (Cond.arrayOver (.array .int)).before #[Value.ref b] s = true := hts _ (List.mem_of_getElem? (i := 559) (by decide +kernel))
  obtain ⟨comp6, c6, k6, q1, q2, q3, q4⟩ := Cond.arrayOver_specA hAI
  have a6 : ArrOfT s c6 (.array .int) ∧ va_RA s c6 (.array .int) := ⟨fun n z => ⟨fun k h => (by cases h), k6, q2, comp6, q3⟩, q4⟩
  obtain ⟨t1, ht1, hT1⟩ := va_Tof (tm := .static "RandomWalks" "COST_ONE" "[I") (ty := .int) (N := 1) (f := fun _ => .int 1) (A := fun q : Nat => s.heap.size ≤ q) (by decide) (hs _ fl_one.1) (va_eqt (hs _ fl_one.2.1)) (fun j hj => by
    have e : j = 0 := by omega
    subst e
    exact va_eqt (hs _ fl_one.2.2)) hA
  obtain ⟨t9, ht9, hT9⟩ := va_Tof (tm := .static "java/lang/Integer" "DigitOnes" "[B") (ty := .byte) (N := 100) (f := fun j => .int (nI (48 + j % 10))) (A := fun q : Nat => s.heap.size ≤ q) (by decide) (hs _ fl_dg.1) (va_eqt (hs _ fl_dg.2)) (fun j hj => va_eqt (hs _ (fl_de j hj))) hA
  have hst : ∀ i : Nat, ∃ q : Nat × Nat, (i < 22 → (stQ i).eval #[Value.ref b] s none [] s = some (.ref q.1)) ∧ (stRead i = true → va_O "java/lang/String" q.1 (fun q : Nat => s.heap.size ≤ q) s s.heap ∧ va_OF "java/lang/String" "coder" "B" (.int 0) q.1 (fun q : Nat => s.heap.size ≤ q) s s.heap ∧ va_OF "java/lang/String" "value" "[B" (.ref q.2) q.1 (fun q : Nat => s.heap.size ≤ q) s s.heap ∧ va_T .byte q.2 (stText i).length (fun j => .int (nI ((stText i).getD j 0))) (fun q : Nat => s.heap.size ≤ q) s s.heap) := by
    intro i
    by_cases hi : i < 22
    · obtain ⟨a, ce, cA, kA, q1, q2, q3, q4, q5, q6, -⟩ := Cond.exactly_spec (args := #[Value.ref b]) (first := s) (o := none) (s := s) (idx := []) (t := stQ i) (cls := "java/lang/String") (hs _ (fl_ex i hi))
      by_cases hr : stRead i = true
      · have hm := rd_in i hr
        obtain ⟨t, ht, hT⟩ := va_Tof (f := fun j => .int (nI ((stText i).getD j 0))) (A := fun q : Nat => s.heap.size ≤ q) (fl_sm i hm) (hs _ (fl_ar i hm)) (va_eqt (hs _ (fl_le i hm))) (fun j hj => va_eqt (hs _ (fl_el i hm j hj))) hA
        exact ⟨(a, t), fun _ => q1, fun _ => ⟨⟨cA, q3, q5, by rw [q6]; exact q2, hA a (Array.getElem?_eq_some_iff.mp q3).1⟩, vk_OFof q1 (va_eqt (hs _ (fl_co i hm))) hA, vk_OFof q1 ht hA, hT⟩⟩
      · exact ⟨(a, 0), fun _ => q1, fun z => absurd z hr⟩
    · refine ⟨(0, 0), fun z => absurd z hi, fun z => ?_⟩
      have := rd_in i z
      have h33 : ∀ j ∈ rdL16, j < 22 := by decide
      exact absurd (h33 i this) hi
  obtain ⟨ad, had⟩ := Classical.axiomOfChoice hst
  have hXb : va_T .int b L (fun j => .int (nI (xs j).toBitVec.toNat)) (fun q : Nat => s.heap.size ≤ q) s s.heap := by
    obtain ⟨scr, x1, x2, x3, x4, x5⟩ := hX
    refine ⟨scr, x1, x2, x3, by omega, ?_, fun j hj => ?_, ?_⟩
    · rw [x4]
    · show _ = some (Value.int (nI (xs j).toBitVec.toNat))
      rw [scr_nI]
      exact x5 j hj
    · exact hA b hbl
  refine ⟨((fun k => (D k).1, fun k => (D k).2), fun k => if k = 0 then c0 else if k = 1 then c1 else if k = 2 then c2 else if k = 3 then c3 else if k = 4 then c4 else if k = 5 then c5 else c6, s.heap.size, fun k => if k = 0 then t1 else if k = 98 then b else if k = 99 then t9 else if k < 98 then (ad (k - 1)).1 else if k = 999 then L else if k < 999 then (ad (k - 101)).2 else (xs (k - 1000)).toBitVec.toNat), rfl, rfl, rfl, ⟨fun k r hk => hD k r hk, fun k q hk => ?_⟩, ⟨fun w hwt hk => va_Nw.of (nwk_on hk) (hts w hwt), fun i q hq => ?_, fun x hx => (by cases hx), va_AO.of hAO, hAI⟩, ?_⟩
  · match k, hk with
    | 0, hk => cases hk; exact a0
    | 1, hk => cases hk; exact a1
    | 2, hk => cases hk; exact a2
    | 3, hk => cases hk; exact a3
    | 4, hk => cases hk; exact a4
    | 5, hk => cases hk; exact a5
    | 6, hk => cases hk; exact a6
    | n + 7, hk => cases hk
  · have hi : i < 22 := by
      have : stTab.length = 22 := by decide +kernel
      have := (List.getElem?_eq_some_iff.mp hq).1
      omega
    have e1 := (had i).1 hi
    have e2 : stQ i = .string q.1 q.2.1 := by
      unfold stQ
      rw [hq]
    rw [e2] at e1
    refine vk_R.of (hts _ (List.mem_of_getElem? ((tb_st i hi).trans (by rw [hq]; rfl)))) ?_
    show _ = some (Value.ref (if i + 1 = 0 then t1 else if i + 1 = 98 then b else if i + 1 = 99 then t9 else if i + 1 < 98 then (ad (i + 1 - 1)).1 else _))
    rw [if_neg (by omega), if_neg (by omega), if_neg (by omega), if_pos (by omega), show i + 1 - 1 = i by omega]
    exact e1
  · refine ⟨va_Zof (hts _ (List.mem_of_getElem? (i := 90) (by decide +kernel))) (hts _ (List.mem_of_getElem? (i := 46) (by decide +kernel))) ht1 hA, hT1, vx_Zqof (hts _ (List.mem_of_getElem? (i := 420) (by decide +kernel))) (hts _ (List.mem_of_getElem? (i := 69) (by decide +kernel))) (hs _ fl_st.1) hA, vx_Zqof (hts _ (List.mem_of_getElem? (i := 422) (by decide +kernel))) (hts _ (List.mem_of_getElem? (i := 69) (by decide +kernel))) (hs _ fl_st.2.1) hA, va_Zof (hts _ (List.mem_of_getElem? (i := 604) (by decide +kernel))) (hts _ (List.mem_of_getElem? (i := 59) (by decide +kernel))) (va_eqt (hs _ fl_st.2.2.1)) hA, va_Zqof (hts _ (List.mem_of_getElem? (i := 620) (by decide +kernel))) (hts _ (List.mem_of_getElem? (i := 65) (by decide +kernel))) (hs _ fl_st.2.2.2) hA, fun i hi => ?_, va_Zof (hts _ (List.mem_of_getElem? (i := 1169) (by decide +kernel))) (hts _ (List.mem_of_getElem? (i := 68) (by decide +kernel))) ht9 hA, hT9, ?_⟩
    · have h33 : ∀ j ∈ rdL16, j < 22 := by decide
      have hi3 := h33 i (rd_in i hi)
      obtain ⟨o1, o2, o3, o4⟩ := (had i).2 hi
      have e1 : (if i + 1 = 0 then t1 else if i + 1 = 98 then b else if i + 1 = 99 then t9 else if i + 1 < 98 then (ad (i + 1 - 1)).1 else if i + 1 = 999 then L else if i + 1 < 999 then (ad (i + 1 - 101)).2 else (xs (i + 1 - 1000)).toBitVec.toNat) = (ad i).1 := by
        rw [if_neg (by omega), if_neg (by omega), if_neg (by omega), if_pos (by omega), show i + 1 - 1 = i by omega]
      have e2 : (if i + 101 = 0 then t1 else if i + 101 = 98 then b else if i + 101 = 99 then t9 else if i + 101 < 98 then (ad (i + 101 - 1)).1 else if i + 101 = 999 then L else if i + 101 < 999 then (ad (i + 101 - 101)).2 else (xs (i + 101 - 1000)).toBitVec.toNat) = (ad i).2 := by
        rw [if_neg (by omega), if_neg (by omega), if_neg (by omega), if_neg (by omega), if_neg (by omega), if_pos (by omega), show i + 101 - 101 = i by omega]
      show va_O "java/lang/String" (if i + 1 = 0 then t1 else if i + 1 = 98 then b else if i + 1 = 99 then t9 else if i + 1 < 98 then (ad (i + 1 - 1)).1 else if i + 1 = 999 then L else if i + 1 < 999 then (ad (i + 1 - 101)).2 else (xs (i + 1 - 1000)).toBitVec.toNat) _ s s.heap ∧ va_OF "java/lang/String" "coder" "B" (.int 0) (if i + 1 = 0 then t1 else if i + 1 = 98 then b else if i + 1 = 99 then t9 else if i + 1 < 98 then (ad (i + 1 - 1)).1 else if i + 1 = 999 then L else if i + 1 < 999 then (ad (i + 1 - 101)).2 else (xs (i + 1 - 1000)).toBitVec.toNat) _ s s.heap ∧ va_OF "java/lang/String" "value" "[B" (.ref (if i + 101 = 0 then t1 else if i + 101 = 98 then b else if i + 101 = 99 then t9 else if i + 101 < 98 then (ad (i + 101 - 1)).1 else if i + 101 = 999 then L else if i + 101 < 999 then (ad (i + 101 - 101)).2 else (xs (i + 101 - 1000)).toBitVec.toNat)) (if i + 1 = 0 then t1 else if i + 1 = 98 then b else if i + 1 = 99 then t9 else if i + 1 < 98 then (ad (i + 1 - 1)).1 else if i + 1 = 999 then L else if i + 1 < 999 then (ad (i + 1 - 101)).2 else (xs (i + 1 - 1000)).toBitVec.toNat) _ s s.heap ∧ va_T .byte (if i + 101 = 0 then t1 else if i + 101 = 98 then b else if i + 101 = 99 then t9 else if i + 101 < 98 then (ad (i + 101 - 1)).1 else if i + 101 = 999 then L else if i + 101 < 999 then (ad (i + 101 - 101)).2 else (xs (i + 101 - 1000)).toBitVec.toNat) (stText i).length _ _ s s.heap
      rw [e1, e2]
      exact ⟨o1, o2, o3, o4⟩
    · have e : (fun j : Nat => Value.int (nI (if 1000 + j = 0 then t1 else if 1000 + j = 98 then b else if 1000 + j = 99 then t9 else if 1000 + j < 98 then (ad (1000 + j - 1)).1 else if 1000 + j = 999 then L else if 1000 + j < 999 then (ad (1000 + j - 101)).2 else (xs (1000 + j - 1000)).toBitVec.toNat))) = fun j => .int (nI (xs j).toBitVec.toNat) := by
        funext j
        rw [if_neg (by omega), if_neg (by omega), if_neg (by omega), if_neg (by omega), if_neg (by omega), if_neg (by omega), show 1000 + j - 1000 = j by omega]
      show va_T .int b L (fun j : Nat => Value.int (nI (if 1000 + j = 0 then t1 else if 1000 + j = 98 then b else if 1000 + j = 99 then t9 else if 1000 + j < 98 then (ad (1000 + j - 1)).1 else if 1000 + j = 999 then L else if 1000 + j < 999 then (ad (1000 + j - 101)).2 else (xs (1000 + j - 1000)).toBitVec.toNat))) _ s s.heap
      rw [e]
      exact hXb

