/-! ===== StringBuilder: from its bytes to texts ===== -/
theorem fitsB_nI : ∀ c : Nat, c < 128 → fits .byte (.int (nI c)) = true := by decide +kernel
def fitB (f : Nat → Int32) (n : Nat) : Prop := ∀ i, i < n → fits .byte (.int (f i)) = true
section
variable {v : Ev} {M : Md} {R : Room} {K : List Frame → Array Value → State → State → Prop} {t0 cells slots : Nat} {h : Hp} {top pc : Nat} {ls : List (Option Value)} {st : List Value}
theorem r_acopyB {idx a0 a n0 n1 : Nat} {f g : Nat → Int32} {x y z : Int32} (k n : Nat) (d : decode M.2.1 pc = .ok (.invokestatic idx, 3)) (hlk : Cond.methodLink M.1.cls idx arraycopyName ∈ big) (ha0 : h a0 = some (aB v n0 f)) (ha1 : h a = some (aB v n1 g)) (hx : x = nI n) (hy : y = nI k) (hzz : z = nI 0) (hfit : fitB f n) (h0 : n ≤ n0) (h1 : k + n ≤ n1) (hN : n ≤ 65536) (hk : k ≤ 65536) (ht : t0 + cells ≤ top)
    (hf : 1 ≤ R.frames) (hl2 : (st.map fun w => w.category).sum + (nativeFrameWords "java/lang/System" "arraycopy" 5 + 11) ≤ R.locals)
    (kk : J v M R K t0 cells slots (hp h a (aB v n1 (va_cpy f g 0 k n))) top (pc + 3) ls st) : J v M R K t0 cells slots h top pc ls (.int x :: .int y :: .ref a :: .int z :: .ref a0 :: st) := by
  intro p l e s m args below meth c F H locs A hz hH hS hl
  obtain ⟨k0, hk0⟩ := List.getElem?_of_mem (wsOf_mem (h := h) (top := top) (q := (a0, aB v n0 f)) |>.mpr ⟨by rw [← hz]; exact hH.lt ha0, ha0⟩)
  obtain ⟨k1, hk1⟩ := List.getElem?_of_mem (wsOf_mem (h := h) (top := top) (q := (a, aB v n1 g)) |>.mpr ⟨by rw [← hz]; exact hH.lt ha1, ha1⟩)
  have hst : s.heap.size = t0 := by
    obtain ⟨-, -, -, -, -, -, -, -, -, q1, -⟩ := F
    exact q1
  subst hx; subst hy; subst hzz
  have c0 : (nI 0).toNatClampNeg = 0 := nI_clamp (by omega)
  have ck : (nI k).toNatClampNeg = k := nI_clamp (by omega)
  have cn : (nI n).toNatClampNeg = n := nI_clamp (by omega)
  refine va_copyi F.1 F.2.1 (F.2.2.1.trans hl.1.symm) F.2.2.2.1 (F.ht _ hlk) (F.ht _ mw_acopy_n) (F.ht _ mw_acopy_s) (F.ht _ mw_system) F.bs.1 (wsOf_P hH) (wsOf_D (fun a e ha => (hH a e ha).1)) (H0 := H) ⟨Nat.le_refl _, fun _ _ _ => rfl, hS.2.2⟩ k0 k1 3 3 hk0 hk1 rfl rfl rfl (nI_pos (by omega)) (nI_pos (by omega)) (nI_pos (by omega)) (by rw [c0, cn]; omega) (by rw [ck, cn]; omega) (fun i hi => by rw [cn] at hi; rw [c0, Nat.zero_add]; exact hfit i hi) hf hl2 d ?_
  intro H1 locs1 hP1 _ hS1
  refine W_cap fun hcap => ?_
  rw [c0, ck, cn] at hP1
  have hle := hS1.1
  exact kk p l e s m args below meth c F H1 locs1 A (by omega) (wsOf_set hH hz hk1 hP1) ⟨Nat.le_trans hS.1 hS1.1, fun q g1 g2 => (hS1.2.1 q (Nat.lt_of_lt_of_le g1 hS.1) g2).trans (hS.2.1 q g1 g2), hS1.2.2⟩ hl
/-- out of a text of the class file -/
theorem r_acopyT {idx i a n1 : Nat} {g : Nat → Int32} {x y z : Int32} (k : Nat) (d : decode M.2.1 pc = .ok (.invokestatic idx, 3)) (hlk : Cond.methodLink M.1.cls idx arraycopyName ∈ big) (hi : stRead i = true) (ha1 : h a = some (aB v n1 g)) (hx : x = nI (stText i).length) (hy : y = nI k) (hzz : z = nI 0) (h1 : k + (stText i).length ≤ n1) (hk : k ≤ 65536)
    (hf : 1 ≤ R.frames) (hl2 : (st.map fun w => w.category).sum + (nativeFrameWords "java/lang/System" "arraycopy" 5 + 11) ≤ R.locals)
    (kk : J v M R K t0 cells slots (hp h a (aB v n1 (va_cpy (fun j => nI ((stText i).getD j 0)) g 0 k (stText i).length))) top (pc + 3) ls st) : J v M R K t0 cells slots h top pc ls (.int x :: .int y :: .ref a :: .int z :: .ref (oA v (i + 101)) :: st) := by
  intro p l e s m args below meth c F H locs A hz hH hS hl
  subst hx; subst hy; subst hzz
  obtain ⟨b1, b2⟩ := stText_b i (stRead_lt hi) hi
  generalize hlen : (stText i).length = len at *
  have c0 : (nI 0).toNatClampNeg = 0 := nI_clamp (by omega)
  have ck : (nI k).toNatClampNeg = k := nI_clamp (by omega)
  have cn : (nI len).toNatClampNeg = len := nI_clamp (by omega)
  have t00 : (nI 0).toInt = 0 := nI_toInt (n := 0) (by omega)
  have tk : (nI k).toInt = (k : Int) := nI_toInt (by omega)
  have tn : (nI len).toInt = (len : Int) := nI_toInt (by omega)
  obtain ⟨scr, hs1, hs2, hs3, hs4, -, hs5, hs7⟩ := (F.old.2.2.2.2.2.2.1 i hi).2.2.2
  rw [hlen] at hs4 hs5
  have hc0 : H[oA v (i + 101)]? = some scr := by rw [hS.2.1 _ (Array.getElem?_eq_some_iff.mp hs1).1 hs7]; exact hs1
  obtain ⟨hz0, hat⟩ := hH a _ ha1
  have hc1 : H[a]? = some (arrV (cA v 3) n1 (fun j => .int (g j))) := hat
  obtain ⟨hs6, k0, hk0, cm0, hkk0⟩ := hs2
  obtain ⟨-, k1, hk1, cm1, hkk1⟩ := (F.bs.1.2 3 _ rfl).1 n1 (fun j => .int (g j))
  intro T hT X
  obtain ⟨vm', X', step⟩ := X.arraycopy F.1 F.2.2.2.1 (F.ht _ hlk) (F.ht _ mw_acopy_n) (F.ht _ mw_acopy_s) (F.ht _ mw_system) (src := oA v (i + 101)) (dst := a) (cs := scr) (cd := arrV (cA v 3) n1 (fun j => .int (g j))) (srcPos := nI 0) (destPos := nI k) (n := nI len) (by rw [hT]; exact hc0) (by rw [hT]; exact hc1)
    hs6 (fun _ q => by cases q) hs3 (fun q => by cases q) hk0 hk1 hkk0 hkk1 (by simp [refKind]) (nI_pos (by omega)) (nI_pos (by omega)) (nI_pos (by omega))
    (by rw [t00, tn]; omega) (by rw [tk, tn, arrV_size]; omega)
    (fun vm₁ _ j hj => by
      rw [cn] at hj
      have e : scr.slots.getD ((nI 0).toNatClampNeg + j) .null = .int (nI ((stText i).getD j 0)) := by
        rw [c0, Nat.zero_add, Array.getD_eq_getD_getElem?, hs5 j hj]
        rfl
      refine ⟨?_, ?_⟩
      · rw [e]
        exact fitsB_nI _ (by have := b2 j (by omega); omega)
      · rw [e]
        exact trivial)
    (g := F0 m pc A (.int (nI len) :: .int (nI k) :: .ref a :: .int (nI 0) :: .ref (oA v (i + 101)) :: st)) rfl (by rw [F.2.2.1]; exact hl.1) (rest := st) rfl (by rw [F.2.1]; exact d) hf (by show 2 * 0 + _ + _ ≤ _; omega)
  have e1 : copied scr (arrV (cA v 3) n1 (fun j => .int (g j))) (nI 0) (nI k) (nI len) = arrV (cA v 3) n1 (fun j => .int (va_cpy (fun j => nI ((stText i).getD j 0)) g 0 k len j)) := by
    show (arrV _ _ _).storeRun (nI k).toNatClampNeg (scr.stretch (nI 0).toNatClampNeg (nI len).toNatClampNeg) = _
    rw [c0, ck, cn]
    exact va_copiedX (fun z => Value.int z) scr (cA v 3) (n0 := len) (fun j => nI ((stText i).getD j 0)) g hs5 (by omega)
  rw [e1] at X' step
  have hlt : a < H.size := (Array.getElem?_eq_some_iff.mp hc1).1
  generalize hcell : arrV (cA v 3) n1 (fun j => Value.int (va_cpy (fun j => nI ((stText i).getD j 0)) g 0 k len j)) = cell at X' step
  have hheap : ((T.setVm vm').setCell a cell).heap = H.setIfInBounds a cell := by rw [← hT]; rfl
  have oq : ∀ q : Nat, q ≠ a → (H.setIfInBounds a cell)[q]? = H[q]? := fun q hq => by simp [Array.getElem?_setIfInBounds, Ne.symm hq]
  have ea : (H.setIfInBounds a cell)[a]? = some cell := by simp [Array.getElem?_setIfInBounds, hlt]
  obtain ⟨t, a1, b1⟩ := kk p l e s m args below meth c F (H.setIfInBounds a cell) _ A (by simp; exact hz) (hH.set hz0 (e := aB v n1 (va_cpy (fun j => nI ((stText i).getD j 0)) g 0 k len)) (by rw [← hcell] at ea ⊢; exact ea) oq)
    ⟨by simp; exact hS.1, fun q g1 g2 => by
      rw [oq q (fun e => g2 (by rw [e]; exact hz0))]
      exact hS.2.1 q g1 g2, fun q hq => by
      rcases List.mem_append.mp hq with h | h
      · exact hS.2.2 q h
      · obtain ⟨z, -, hz⟩ := List.mem_map.mp h
        rw [← hz]
        exact hz0⟩ hl _ hheap X'
  exact ⟨t, step t a1, b1⟩
theorem r_sCopy {idx w a n1 : Nat} {g : Nat → Int32} {x y z : Int32} {L : List Nat} (k : Nat) (d : decode M.2.1 pc = .ok (.invokestatic idx, 3)) (hlk : Cond.methodLink M.1.cls idx arraycopyName ∈ big) (hw : isB v h w L) (okL : okTx L) (ha1 : h a = some (aB v n1 g)) (hx : x = nI L.length) (hy : y = nI k) (hzz : z = nI 0) (h1 : k + L.length ≤ n1) (hN : L.length ≤ 65536) (hk : k ≤ 65536) (ht : t0 + cells ≤ top)
    (hf : 1 ≤ R.frames) (hl2 : (st.map fun w => w.category).sum + (nativeFrameWords "java/lang/System" "arraycopy" 5 + 11) ≤ R.locals)
    (kk : ∀ f, txF f L → J v M R K t0 cells slots (hp h a (aB v n1 (va_cpy f g 0 k L.length))) top (pc + 3) ls st) : J v M R K t0 cells slots h top pc ls (.int x :: .int y :: .ref a :: .int z :: .ref w :: st) := by
  rcases hw with ⟨i, hi, rfl, rfl⟩ | ⟨f, h2, h3⟩
  · exact r_acopyT k d hlk hi ha1 hx hy hzz h1 hk hf hl2 (kk _ (fun j _ => rfl))
  · exact r_acopyB k L.length d hlk h2 ha1 hx hy hzz (fun i hi => by rw [h3 i hi]; exact fitsB_nI _ (okL.2 i hi)) (Nat.le_refl _) h1 hN hk ht hf hl2 (kk f h3)
end
section
variable {v : Ev} {M : Md} {R : Room} {K : List Frame → Array Value → State → State → Prop} {t0 cells slots : Nat} {h : Hp} {top pc : Nat} {ls : List (Option Value)} {st : List Value}
theorem r_gsD {idx : Nat} (d : decode M.2.1 pc = .ok (.getstatic idx, 3)) (hw : Cond.fieldLink M.1.cls idx "java/lang/Integer" "DigitOnes" "[B" ∈ big) (kk : J v M R K t0 cells slots h top (pc + 3) ls (.ref (oA v 99) :: st)) : J v M R K t0 cells slots h top pc ls st := by
  intro p l e s m args below meth c F H locs A hz hH hS hl
  exact va_gets F.1 F.2.1 F.old.2.2.2.2.2.2.2.1 hS F.2.2.2.1 (F.ht _ hw) (fun _ q => q) d (kk p l e s m args below meth c F H locs A hz hH hS hl)
theorem r_baldD {j : Nat} (d : decode M.2.1 pc = .ok (.baload, 1)) (hj : j < 100) (kk : J v M R K t0 cells slots h top (pc + 1) ls (.int (nI (48 + j % 10)) :: st)) : J v M R K t0 cells slots h top pc ls (.int (nI j) :: .ref (oA v 99) :: st) := by
  intro p l e s m args below meth c F H locs A hz hH hS hl
  obtain ⟨h1, h2⟩ := in_nI (x := nI j) rfl hj (by omega)
  exact va_tb F.1 F.2.1 F.old.2.2.2.2.2.2.2.2.1 hS h1 (by rw [h2]) d (kk p l e s m args below meth c F H locs A hz hH hS hl)
end
def sbE (val n : Nat) : va_E := ob 12 [.ref val, .int 0, .int 0, .int (nI n)]
theorem c_isL5 {v : Ev} {h : Hp} {top b val n : Nat} (hb : h b = some (sbE val n)) : Cal v mJ5_isLatin1_aae02 1 0 0 [.ref b] h top (pR (.int 1) h top) noX := by
  refine Cal.ofJ (by decide +kernel) rfl (Nat.le_of_ble_eq_true rfl) fun hz0 => ?_
  refine r_ls [some (.ref b)] rfl ?_
  refine r_gsC (pc := 0) (tJ5_isLatin1_aae02.at 0 rfl) fl_J5_18 ?_
  refine r_if_eq (pc := 3) 17 (tJ5_isLatin1_aae02.at 1 rfl) (by decide) (fun z => absurd z (by decide)) (fun _ => ?_)
  refine r_aload_n (pc := 6) (i := 0) (tJ5_isLatin1_aae02.at 2 rfl) rfl rfl ?_
  refine r_get (pc := 7) (tJ5_isLatin1_aae02.at 3 rfl) gf_J5_22 (hb) rfl ?_
  refine r_if_ne (pc := 10) 17 (tJ5_isLatin1_aae02.at 4 rfl) (by decide) (fun z => absurd rfl z) (fun _ => ?_)
  refine r_iconst (pc := 13) (w := nI 1) (tJ5_isLatin1_aae02.at 5 rfl) (by decide) ?_
  refine r_goto (pc := 14) 18 (tJ5_isLatin1_aae02.at 6 rfl) (by decide) ?_
  refine r_zret (pc := 18) (tJ5_isLatin1_aae02.at 8 rfl) rfl rfl (Nat.le_of_ble_eq_true rfl) (Nat.le_of_ble_eq_true rfl) ?_
  exact ⟨rfl, rfl, rfl⟩
theorem c_newLen {v : Ev} {h : Hp} {top a b c : Nat} (ha : a ≤ 1000) (hb : b ≤ 1000) (hc : c ≤ 1000) (h0 : 0 < a + max b c) : Cal v mJ8_newLength_cabcc 1 0 0 [.int (nI a), .int (nI b), .int (nI c)] h top (pR (.int (nI (a + max b c))) h top) noX := by
  refine Cal.ofJ (by decide +kernel) rfl (Nat.le_of_ble_eq_true rfl) fun hz0 => ?_
  refine r_ls [some (.int (nI a)), some (.int (nI b)), some (.int (nI c)), none] rfl ?_
  refine r_iload_n (pc := 0) (i := 0) (tJ8_newLength_cabcc.at 0 rfl) rfl rfl ?_
  refine r_iload_n (pc := 1) (i := 1) (tJ8_newLength_cabcc.at 1 rfl) rfl rfl ?_
  refine r_iload_n (pc := 2) (i := 2) (tJ8_newLength_cabcc.at 2 rfl) rfl rfl ?_
  first | refine r_mmaxN (pc := 3) (tJ8_newLength_cabcc.at 3 rfl) ml_J8_194 mw_max_s mw_math mw_max_c (Nat.le_of_ble_eq_true rfl) (Nat.le_of_ble_eq_true rfl) (Nat.le_of_ble_eq_true rfl) (Nat.le_of_ble_eq_true rfl) (by omega) (by omega) ?_ | refine r_mmaxZ (pc := 3) (tJ8_newLength_cabcc.at 3 rfl) ml_J8_194 mw_max_s mw_math mw_max_c (Nat.le_of_ble_eq_true rfl) (Nat.le_of_ble_eq_true rfl) (Nat.le_of_ble_eq_true rfl) (Nat.le_of_ble_eq_true rfl) ⟨by omega, by omega⟩ ⟨by omega, by omega⟩ ?_ | refine r_mmax (pc := 3) (tJ8_newLength_cabcc.at 3 rfl) ml_J8_194 mw_max_s mw_math mw_max_c (Nat.le_of_ble_eq_true rfl) (Nat.le_of_ble_eq_true rfl) (Nat.le_of_ble_eq_true rfl) (Nat.le_of_ble_eq_true rfl) ?_
  first | refine r_iaddN (pc := 6) (tJ8_newLength_cabcc.at 4 rfl) ?_ | refine r_iaddZ (pc := 6) (tJ8_newLength_cabcc.at 4 rfl) ?_ | refine r_iadd (pc := 6) (tJ8_newLength_cabcc.at 4 rfl) ?_
  refine r_istore_n (pc := 7) (i := 3) (tJ8_newLength_cabcc.at 5 rfl) rfl (by decide) ?_
  refine r_iconst (pc := 8) (w := nI 0) (tJ8_newLength_cabcc.at 6 rfl) (by decide) ?_
  refine r_iload_n (pc := 9) (i := 3) (tJ8_newLength_cabcc.at 7 rfl) rfl rfl ?_
  refine r_icmp_geN (pc := 10) 21 (tJ8_newLength_cabcc.at 8 rfl) (by decide) (by omega) (by omega) (fun c => by omega) (fun _ => ?_)
  refine r_iload_n (pc := 13) (i := 3) (tJ8_newLength_cabcc.at 9 rfl) rfl rfl ?_
  refine r_ldcI (pc := 14) (tJ8_newLength_cabcc.at 10 rfl) ic_J8_200 ?_
  refine r_eq rfl (st2 := [.int (nI 2147483639), .int (nI (a + max b c))]) rfl ?_
  refine r_icmp_gtN (pc := 16) 21 (tJ8_newLength_cabcc.at 11 rfl) (by decide) (by omega) (by omega) (fun c => by omega) (fun _ => ?_)
  refine r_iload_n (pc := 19) (i := 3) (tJ8_newLength_cabcc.at 12 rfl) rfl rfl ?_
  refine r_iret (pc := 20) (tJ8_newLength_cabcc.at 13 rfl) rfl (Nat.le_of_ble_eq_true rfl) (Nat.le_of_ble_eq_true rfl) ?_
  exact ⟨rfl, rfl, rfl⟩
theorem c_newCap {v : Ev} {h : Hp} {top b val n cap m : Nat} {f : Nat → Int32} (hb : h b = some (sbE val n)) (hv : h val = some (aB v cap f)) (hm : cap < m) (hm2 : m ≤ 200) : Cal v mJ5_newCapacity_0f7a4 2 0 0 [.ref b, .int (nI m)] h top (pR (.int (nI (cap + max (m - cap) (cap + 2)))) h top) noX := by
  refine Cal.ofJ (by decide +kernel) rfl (Nat.le_of_ble_eq_true rfl) fun hz0 => ?_
  refine r_ls [some (.ref b), some (.int (nI m)), none, none, none, none] rfl ?_
  refine r_aload_n (pc := 0) (i := 0) (tJ5_newCapacity_0f7a4.at 0 rfl) rfl rfl ?_
  refine r_get (pc := 1) (tJ5_newCapacity_0f7a4.at 1 rfl) gf_J5_15 (hb) rfl ?_
  refine r_alenB (pc := 4) (tJ5_newCapacity_0f7a4.at 2 rfl) (hv) ?_
  refine r_istore_n (pc := 5) (i := 2) (tJ5_newCapacity_0f7a4.at 3 rfl) rfl (by decide) ?_
  refine r_iload_n (pc := 6) (i := 1) (tJ5_newCapacity_0f7a4.at 4 rfl) rfl rfl ?_
  refine r_aload_n (pc := 7) (i := 0) (tJ5_newCapacity_0f7a4.at 5 rfl) rfl rfl ?_
  refine r_get (pc := 8) (tJ5_newCapacity_0f7a4.at 6 rfl) gf_J5_22 (hb) rfl ?_
  refine r_ishl (pc := 11) (tJ5_newCapacity_0f7a4.at 7 rfl) ?_
  rw [shl0]
  refine r_istore_n (pc := 12) (i := 3) (tJ5_newCapacity_0f7a4.at 8 rfl) rfl (by decide) ?_
  refine r_iload_n (pc := 13) (i := 3) (tJ5_newCapacity_0f7a4.at 9 rfl) rfl rfl ?_
  refine r_iload_n (pc := 14) (i := 2) (tJ5_newCapacity_0f7a4.at 10 rfl) rfl rfl ?_
  first | refine r_isubN (pc := 15) (tJ5_newCapacity_0f7a4.at 11 rfl) (by omega) ?_ | refine r_isubZ (pc := 15) (tJ5_newCapacity_0f7a4.at 11 rfl) ?_ | refine r_isub (pc := 15) (tJ5_newCapacity_0f7a4.at 11 rfl) ?_
  refine r_istore (pc := 16) (i := 4) (tJ5_newCapacity_0f7a4.at 12 rfl) (by decide) ?_
  refine r_iload_n (pc := 18) (i := 2) (tJ5_newCapacity_0f7a4.at 13 rfl) rfl rfl ?_
  refine r_iload (pc := 19) (i := 4) (tJ5_newCapacity_0f7a4.at 14 rfl) rfl ?_
  refine r_iload_n (pc := 21) (i := 2) (tJ5_newCapacity_0f7a4.at 15 rfl) rfl rfl ?_
  refine r_iconst (pc := 22) (w := nI 2) (tJ5_newCapacity_0f7a4.at 16 rfl) (by decide) ?_
  refine r_aload_n (pc := 23) (i := 0) (tJ5_newCapacity_0f7a4.at 17 rfl) rfl rfl ?_
  refine r_get (pc := 24) (tJ5_newCapacity_0f7a4.at 18 rfl) gf_J5_22 (hb) rfl ?_
  refine r_ishl (pc := 27) (tJ5_newCapacity_0f7a4.at 19 rfl) ?_
  rw [shl0]
  first | refine r_iaddN (pc := 28) (tJ5_newCapacity_0f7a4.at 20 rfl) ?_ | refine r_iaddZ (pc := 28) (tJ5_newCapacity_0f7a4.at 20 rfl) ?_ | refine r_iadd (pc := 28) (tJ5_newCapacity_0f7a4.at 20 rfl) ?_
  refine r_callS (M' := mJ8_newLength_cabcc) (pc := 29) (tJ5_newCapacity_0f7a4.at 21 rfl) ml_J5_114 rfl mw_J8_newLength_cabcc ⟨by decide, by decide⟩ (c_newLen (by omega) (by omega) (by omega) (by omega)) rfl rfl (Nat.le_of_ble_eq_true rfl) (Nat.le_of_ble_eq_true rfl) (Nat.le_of_ble_eq_true rfl) ?_
  rintro _ _ _ ⟨rfl, rfl, rfl⟩
  refine r_istore (pc := 32) (i := 5) (tJ5_newCapacity_0f7a4.at 22 rfl) (by decide) ?_
  refine r_iload (pc := 34) (i := 5) (tJ5_newCapacity_0f7a4.at 23 rfl) rfl ?_
  refine r_ldcI (pc := 36) (tJ5_newCapacity_0f7a4.at 24 rfl) ic_J5_39 ?_
  refine r_eq rfl (st2 := [.int (nI 2147483647), .int (nI (cap + max (m - cap) (cap + 2)))]) rfl ?_
  refine r_icmp_neN (pc := 38) 51 (tJ5_newCapacity_0f7a4.at 25 rfl) (by decide) (by omega) (by omega) (fun _ => ?_) (fun c => by omega)
  refine r_iload (pc := 51) (i := 5) (tJ5_newCapacity_0f7a4.at 31 rfl) rfl ?_
  refine r_aload_n (pc := 53) (i := 0) (tJ5_newCapacity_0f7a4.at 32 rfl) rfl rfl ?_
  refine r_get (pc := 54) (tJ5_newCapacity_0f7a4.at 33 rfl) gf_J5_22 (hb) rfl ?_
  refine r_ishr (pc := 57) (tJ5_newCapacity_0f7a4.at 34 rfl) ?_
  rw [shr0]
  refine r_iret (pc := 58) (tJ5_newCapacity_0f7a4.at 35 rfl) rfl (Nat.le_of_ble_eq_true rfl) (Nat.le_of_ble_eq_true rfl) ?_
  exact ⟨rfl, rfl, rfl⟩
theorem c_copyOfB {v : Ev} {h : Hp} {top a n N : Nat} {f : Nat → Int32} (ha : h a = some (aB v n f)) (hn : n < N) (hN : N ≤ 400) (hf : fitB f n) : Cal v mJ7_copyOf_9075b 2 1 400 [.ref a, .int (nI N)] h top (fun r h' top' => r = some (.ref top) ∧ h' = hp h top (aB v N (va_cpy f (fun _ => 0) 0 0 n)) ∧ top' = top + 1) noX := by
  refine Cal.ofJ (by decide +kernel) rfl (Nat.le_of_ble_eq_true rfl) fun hz0 => ?_
  refine r_ls [some (.ref a), some (.int (nI N)), none] rfl ?_
  refine r_lt ha (fun _ hat => ?_)
  refine r_iload_n (pc := 0) (i := 1) (tJ7_copyOf_9075b.at 0 rfl) rfl rfl ?_
  refine r_aload_n (pc := 1) (i := 0) (tJ7_copyOf_9075b.at 1 rfl) rfl rfl ?_
  refine r_alenB (pc := 2) (tJ7_copyOf_9075b.at 2 rfl) (ha) ?_
  refine r_icmp_neN (pc := 3) 14 (tJ7_copyOf_9075b.at 3 rfl) (by decide) (by omega) (by omega) (fun _ => ?_) (fun c => by omega)
  refine r_iload_n (pc := 14) (i := 1) (tJ7_copyOf_9075b.at 8 rfl) rfl rfl ?_
  refine r_newaB (pc := 15) N (tJ7_copyOf_9075b.at 9 rfl) rfl (by omega) ac_byte (by show 0 + 1 ≤ 1; omega) (by show 0 + N ≤ 400; omega) (fun fr => ?_)
  refine r_widen (c2 := 1) (s2 := 400) (by omega) (by omega) ?_
  refine r_astore_n (pc := 17) (i := 2) (tJ7_copyOf_9075b.at 10 rfl) rfl (by decide) ?_
  refine r_aload_n (pc := 18) (i := 0) (tJ7_copyOf_9075b.at 11 rfl) rfl rfl ?_
  refine r_iconst (pc := 19) (w := nI 0) (tJ7_copyOf_9075b.at 12 rfl) (by decide) ?_
  refine r_aload_n (pc := 20) (i := 2) (tJ7_copyOf_9075b.at 13 rfl) rfl rfl ?_
  refine r_iconst (pc := 21) (w := nI 0) (tJ7_copyOf_9075b.at 14 rfl) (by decide) ?_
  refine r_aload_n (pc := 22) (i := 0) (tJ7_copyOf_9075b.at 15 rfl) rfl rfl ?_
  refine r_alenB (pc := 23) (tJ7_copyOf_9075b.at 16 rfl) ((hp_ne _ _ (by omega)).trans ha) ?_
  refine r_iload_n (pc := 24) (i := 1) (tJ7_copyOf_9075b.at 17 rfl) rfl rfl ?_
  first | refine r_mminN (pc := 25) (tJ7_copyOf_9075b.at 18 rfl) ml_J7_304 mw_min_s mw_math mw_min_c (Nat.le_of_ble_eq_true rfl) (Nat.le_of_ble_eq_true rfl) (Nat.le_of_ble_eq_true rfl) (Nat.le_of_ble_eq_true rfl) (by omega) (by omega) ?_ | refine r_mminZ (pc := 25) (tJ7_copyOf_9075b.at 18 rfl) ml_J7_304 mw_min_s mw_math mw_min_c (Nat.le_of_ble_eq_true rfl) (Nat.le_of_ble_eq_true rfl) (Nat.le_of_ble_eq_true rfl) (Nat.le_of_ble_eq_true rfl) ⟨by omega, by omega⟩ ⟨by omega, by omega⟩ ?_ | refine r_mmin (pc := 25) (tJ7_copyOf_9075b.at 18 rfl) ml_J7_304 mw_min_s mw_math mw_min_c (Nat.le_of_ble_eq_true rfl) (Nat.le_of_ble_eq_true rfl) (Nat.le_of_ble_eq_true rfl) (Nat.le_of_ble_eq_true rfl) ?_
  rw [show min n N = n by omega]
  refine r_acopyB (pc := 28) 0 n (tJ7_copyOf_9075b.at 19 rfl) ml_J7_150 ((hp_ne _ _ (by omega)).trans ha) (hp_eq _ _ _) rfl rfl rfl hf (Nat.le_refl _) (by omega) (by omega) (by omega) (by omega) (Nat.le_of_ble_eq_true rfl) (Nat.le_of_ble_eq_true rfl) ?_
  rw [hp_hp]
  refine r_aload_n (pc := 31) (i := 2) (tJ7_copyOf_9075b.at 20 rfl) rfl rfl ?_
  refine r_aret (pc := 32) (tJ7_copyOf_9075b.at 21 rfl) rfl (Or.inr ⟨_, rfl⟩) (Nat.le_of_ble_eq_true rfl) (Nat.le_of_ble_eq_true rfl) ?_
  exact ⟨rfl, rfl, rfl⟩
/-- the builder has room for m bytes -/
def pEn (v : Ev) (h : Hp) (top b val n cap m : Nat) (f : Nat → Int32) : Option Value → Hp → Nat → Prop := fun r h' top' => r = none ∧ top ≤ top' ∧ ∃ val' cap' f', h' b = some (sbE val' n) ∧ h' val' = some (aB v cap' f') ∧ m ≤ cap' ∧ cap ≤ cap' ∧ cap' ≤ 400 ∧ fitB f' cap' ∧ (∀ i, i < cap → f' i = f i) ∧ (val' = val ∨ top ≤ val') ∧ b ≠ val' ∧ ∀ a, a < top → a ≠ b → h' a = h a
theorem fitB_cpy {f : Nat → Int32} {n N : Nat} (h : fitB f n) : fitB (va_cpy f (fun _ => 0) 0 0 n) N := by
  intro i hi
  unfold va_cpy
  split
  · rw [show 0 + (i - 0) = i by omega]
    exact h i (by omega)
  · rfl
theorem c_ensure {v : Ev} {h : Hp} {top b val n cap m : Nat} {f : Nat → Int32} (hb : h b = some (sbE val n)) (hv : h val = some (aB v cap f)) (hc : cap ≤ 400) (hm2 : m ≤ 200) (hf : fitB f cap) : Cal v mJ5_ensureCapacityInternal_d00df 3 1 400 [.ref b, .int (nI m)] h top (pEn v h top b val n cap m f) noX := by
  have hne : b ≠ val := fun e => by
    rw [e, hv] at hb
    cases hb
  refine Cal.ofJ (by decide +kernel) rfl (Nat.le_of_ble_eq_true rfl) fun hz0 => ?_
  refine r_ls [some (.ref b), some (.int (nI m)), none] rfl ?_
  refine r_lt hb (fun _ hbt => ?_)
  refine r_lt hv (fun _ hvt => ?_)
  refine r_aload_n (pc := 0) (i := 0) (tJ5_ensureCapacityInternal_d00df.at 0 rfl) rfl rfl ?_
  refine r_get (pc := 1) (tJ5_ensureCapacityInternal_d00df.at 1 rfl) gf_J5_15 (hb) rfl ?_
  refine r_alenB (pc := 4) (tJ5_ensureCapacityInternal_d00df.at 2 rfl) (hv) ?_
  refine r_aload_n (pc := 5) (i := 0) (tJ5_ensureCapacityInternal_d00df.at 3 rfl) rfl rfl ?_
  refine r_get (pc := 6) (tJ5_ensureCapacityInternal_d00df.at 4 rfl) gf_J5_22 (hb) rfl ?_
  refine r_ishr (pc := 9) (tJ5_ensureCapacityInternal_d00df.at 5 rfl) ?_
  rw [shr0]
  refine r_istore_n (pc := 10) (i := 2) (tJ5_ensureCapacityInternal_d00df.at 6 rfl) rfl (by decide) ?_
  refine r_iload_n (pc := 11) (i := 1) (tJ5_ensureCapacityInternal_d00df.at 7 rfl) rfl rfl ?_
  refine r_iload_n (pc := 12) (i := 2) (tJ5_ensureCapacityInternal_d00df.at 8 rfl) rfl rfl ?_
  rcases Nat.lt_or_ge cap m with hlt | hge
  · refine r_isubN (pc := 13) (tJ5_ensureCapacityInternal_d00df.at 9 rfl) (by omega) ?_
    refine r_if_leN (pc := 14) 38 (tJ5_ensureCapacityInternal_d00df.at 10 rfl) (by decide) (by omega) (fun c => by omega) (fun _ => ?_)
    refine r_aload_n (pc := 17) (i := 0) (tJ5_ensureCapacityInternal_d00df.at 11 rfl) rfl rfl ?_
    refine r_aload_n (pc := 18) (i := 0) (tJ5_ensureCapacityInternal_d00df.at 12 rfl) rfl rfl ?_
    refine r_get (pc := 19) (tJ5_ensureCapacityInternal_d00df.at 13 rfl) gf_J5_15 (hb) rfl ?_
    refine r_aload_n (pc := 22) (i := 0) (tJ5_ensureCapacityInternal_d00df.at 14 rfl) rfl rfl ?_
    refine r_iload_n (pc := 23) (i := 1) (tJ5_ensureCapacityInternal_d00df.at 15 rfl) rfl rfl ?_
    refine r_callU (MX := mJ5_newCapacity_0f7a4) (M' := mJ5_newCapacity_0f7a4) (C := "java/lang/StringBuilder") (pc := 24) (tJ5_ensureCapacityInternal_d00df.at 16 rfl) ml_J5_104 rfl mw_J5_newCapacity_0f7a4 ii_J5_newCapacity_0f7a4 sm_J5_newCapacity_0f7a4 se_J5_newCapacity_0f7a4 rfl mw_J5_newCapacity_0f7a4 ii_J5_newCapacity_0f7a4 ⟨by decide, by decide⟩ (hb) rfl rfl (c_newCap hb hv hlt hm2) rfl rfl (Nat.le_of_ble_eq_true rfl) (Nat.le_of_ble_eq_true rfl) (Nat.le_of_ble_eq_true rfl) ?_
    rintro _ _ _ ⟨rfl, rfl, rfl⟩
    refine r_aload_n (pc := 27) (i := 0) (tJ5_ensureCapacityInternal_d00df.at 17 rfl) rfl rfl ?_
    refine r_get (pc := 28) (tJ5_ensureCapacityInternal_d00df.at 18 rfl) gf_J5_22 (hb) rfl ?_
    refine r_ishl (pc := 31) (tJ5_ensureCapacityInternal_d00df.at 19 rfl) ?_
    rw [shl0]
    refine r_callS (M' := mJ7_copyOf_9075b) (pc := 32) (tJ5_ensureCapacityInternal_d00df.at 20 rfl) ml_J5_108 rfl mw_J7_copyOf_9075b ⟨by decide, by decide⟩ (c_copyOfB hv (by omega) (by omega) hf) rfl rfl (Nat.le_of_ble_eq_true rfl) (Nat.le_of_ble_eq_true rfl) (Nat.le_of_ble_eq_true rfl) ?_
    rintro _ _ _ ⟨rfl, rfl, rfl⟩
    refine r_put (pc := 35) (tJ5_ensureCapacityInternal_d00df.at 21 rfl) pf_J5_15 ((hp_ne _ _ (by omega)).trans hb) (Nat.le_of_ble_eq_true rfl) (rfl) (rfl) ?_
    refine r_vret (pc := 38) (tJ5_ensureCapacityInternal_d00df.at 22 rfl) rfl (Nat.le_of_ble_eq_true rfl) (Nat.le_of_ble_eq_true rfl) ?_
    refine ⟨rfl, by omega, top, _, _, hp_eq _ _ _, (hp_ne _ _ (by omega)).trans (hp_eq _ _ _), by omega, by omega, by omega, fitB_cpy hf, fun i hi => ?_, Or.inr (Nat.le_refl _), by omega, fun a h1 h2 => (hp_ne _ _ h2).trans (hp_ne _ _ (by omega))⟩
    unfold va_cpy
    rw [if_pos (by omega), show 0 + (i - 0) = i by omega]
  · refine r_isub (pc := 13) (tJ5_ensureCapacityInternal_d00df.at 9 rfl) ?_
    refine r_if_le (pc := 14) 38 (tJ5_ensureCapacityInternal_d00df.at 10 rfl) (by decide) (fun _ => ?_) (fun c => absurd ?_ c)
    · refine r_widen (c2 := 1) (s2 := 400) (by omega) (by omega) ?_
      refine r_vret (pc := 38) (tJ5_ensureCapacityInternal_d00df.at 22 rfl) rfl (Nat.le_of_ble_eq_true rfl) (Nat.le_of_ble_eq_true rfl) ?_
      exact ⟨rfl, Nat.le_refl _, val, cap, f, hb, hv, hge, Nat.le_refl _, hc, hf, fun _ _ => rfl, Or.inl rfl, hne, fun _ _ _ => rfl⟩
    · rw [← zI_nat, ← zI_nat, zI_sub, show (0 : Int32) = zI 0 from rfl, zI_le (by unfold inI; omega) (by unfold inI; omega)]
      omega
theorem c_infl {v : Ev} {h : Hp} {top b val n q : Nat} {L : List Nat} (hb : h b = some (sbE val n)) (hq : isS v h q L) : Cal v mJ5_inflateIfNeededFor_a7421 2 0 0 [.ref b, .ref q] h top (pV h top) noX := by
  refine Cal.ofJ (by decide +kernel) rfl (Nat.le_of_ble_eq_true rfl) fun hz0 => ?_
  refine r_ls [some (.ref b), some (.ref q)] rfl ?_
  refine r_gsC (pc := 0) (tJ5_inflateIfNeededFor_a7421.at 0 rfl) fl_J5_18 ?_
  refine r_if_eq (pc := 3) 21 (tJ5_inflateIfNeededFor_a7421.at 1 rfl) (by decide) (fun z => absurd z (by decide)) (fun _ => ?_)
  refine r_aload_n (pc := 6) (i := 0) (tJ5_inflateIfNeededFor_a7421.at 2 rfl) rfl rfl ?_
  refine r_get (pc := 7) (tJ5_inflateIfNeededFor_a7421.at 3 rfl) gf_J5_22 (hb) rfl ?_
  refine r_aload_n (pc := 10) (i := 1) (tJ5_inflateIfNeededFor_a7421.at 4 rfl) rfl rfl ?_
  refine r_sCall (M' := mJ0_coder_7d493) (pc := 11) (tJ5_inflateIfNeededFor_a7421.at 5 rfl) ml_J5_40 rfl mw_J0_coder_7d493 ⟨by decide, by decide⟩ (hq) rfl (c_sCoder hq) rfl rfl (Nat.le_of_ble_eq_true rfl) (Nat.le_of_ble_eq_true rfl) (Nat.le_of_ble_eq_true rfl) ?_
  rintro _ _ _ ⟨rfl, rfl, rfl⟩
  refine r_icmp_eq (pc := 14) 21 (tJ5_inflateIfNeededFor_a7421.at 6 rfl) (by decide) (fun _ => ?_) (fun z => absurd rfl z)
  refine r_vret (pc := 21) (tJ5_inflateIfNeededFor_a7421.at 9 rfl) rfl (Nat.le_of_ble_eq_true rfl) (Nat.le_of_ble_eq_true rfl) ?_
  exact ⟨rfl, rfl, rfl⟩
theorem c_getBytes {v : Ev} {h : Hp} {top q a k cap : Nat} {L : List Nat} {g : Nat → Int32} (hq : isS v h q L) (ok : okTx L) (ha : h a = some (aB v cap g)) (hk : k + L.length ≤ cap) (hc : cap ≤ 400) : Cal v mJ0_getBytes_840e7 2 0 0 [.ref q, .ref a, .int (nI k), .int 0] h top (fun r h' top' => r = none ∧ top' = top ∧ ∃ f, txF f L ∧ h' = hp h a (aB v cap (va_cpy f g 0 k L.length))) noX := by
  refine Cal.ofJ (by decide +kernel) rfl (Nat.le_of_ble_eq_true rfl) fun hz0 => ?_
  refine r_ls [some (.ref q), some (.ref a), some (.int (nI k)), some (.int 0)] rfl ?_
  refine r_aload_n (pc := 0) (i := 0) (tJ0_getBytes_840e7.at 0 rfl) rfl rfl ?_
  refine r_sCall (M' := mJ0_coder_7d493) (pc := 1) (tJ0_getBytes_840e7.at 1 rfl) ml_J0_335 rfl mw_J0_coder_7d493 ⟨by decide, by decide⟩ (hq) rfl (c_sCoder hq) rfl rfl (Nat.le_of_ble_eq_true rfl) (Nat.le_of_ble_eq_true rfl) (Nat.le_of_ble_eq_true rfl) ?_
  rintro _ _ _ ⟨rfl, rfl, rfl⟩
  refine r_iload_n (pc := 4) (i := 3) (tJ0_getBytes_840e7.at 2 rfl) rfl rfl ?_
  refine r_icmp_ne (pc := 5) 28 (tJ0_getBytes_840e7.at 3 rfl) (by decide) (fun z => absurd rfl z) (fun _ => ?_)
  refine r_aload_n (pc := 8) (i := 0) (tJ0_getBytes_840e7.at 4 rfl) rfl rfl ?_
  refine r_sV (pc := 9) (tJ0_getBytes_840e7.at 5 rfl) fl_value gf_J0_9 hq (fun w hw => ?_)
  refine r_iconst (pc := 12) (w := nI 0) (tJ0_getBytes_840e7.at 6 rfl) (by decide) ?_
  refine r_aload_n (pc := 13) (i := 1) (tJ0_getBytes_840e7.at 7 rfl) rfl rfl ?_
  refine r_iload_n (pc := 14) (i := 2) (tJ0_getBytes_840e7.at 8 rfl) rfl rfl ?_
  refine r_iload_n (pc := 15) (i := 3) (tJ0_getBytes_840e7.at 9 rfl) rfl rfl ?_
  refine r_ishl (pc := 16) (tJ0_getBytes_840e7.at 10 rfl) ?_
  rw [shl0]
  refine r_aload_n (pc := 17) (i := 0) (tJ0_getBytes_840e7.at 11 rfl) rfl rfl ?_
  refine r_sV (pc := 18) (tJ0_getBytes_840e7.at 12 rfl) fl_value gf_J0_9 hq (fun w2 hw2 => ?_)
  refine r_sAlen (pc := 21) (tJ0_getBytes_840e7.at 13 rfl) hw2 ?_
  refine r_sCopy (pc := 22) k (tJ0_getBytes_840e7.at 14 rfl) ml_J0_212 hw ok ha rfl rfl rfl hk (by have := ok.1; omega) (by omega) (Nat.le_refl _) (Nat.le_of_ble_eq_true rfl) (Nat.le_of_ble_eq_true rfl) (fun f hf => ?_)
  refine r_goto (pc := 25) 43 (tJ0_getBytes_840e7.at 15 rfl) (by decide) ?_
  refine r_vret (pc := 43) (tJ0_getBytes_840e7.at 25 rfl) rfl (Nat.le_of_ble_eq_true rfl) (Nat.le_of_ble_eq_true rfl) ?_
  exact ⟨rfl, rfl, f, hf, rfl⟩
theorem c_putStr {v : Ev} {h : Hp} {top b val n q k cap : Nat} {L : List Nat} {g : Nat → Int32} (hb : h b = some (sbE val n)) (hq : isS v h q L) (ok : okTx L) (ha : h val = some (aB v cap g)) (hk : k + L.length ≤ cap) (hc : cap ≤ 400) : Cal v mJ5_putStringAt_47b60 3 0 0 [.ref b, .int (nI k), .ref q] h top (fun r h' top' => r = none ∧ top' = top ∧ ∃ f, txF f L ∧ h' = hp h val (aB v cap (va_cpy f g 0 k L.length))) noX := by
  refine Cal.ofJ (by decide +kernel) rfl (Nat.le_of_ble_eq_true rfl) fun hz0 => ?_
  refine r_ls [some (.ref b), some (.int (nI k)), some (.ref q)] rfl ?_
  refine r_aload_n (pc := 0) (i := 0) (tJ5_putStringAt_47b60.at 0 rfl) rfl rfl ?_
  refine r_aload_n (pc := 1) (i := 2) (tJ5_putStringAt_47b60.at 1 rfl) rfl rfl ?_
  refine r_callU (MX := mJ5_inflateIfNeededFor_a7421) (M' := mJ5_inflateIfNeededFor_a7421) (C := "java/lang/StringBuilder") (pc := 2) (tJ5_putStringAt_47b60.at 2 rfl) ml_J5_397 rfl mw_J5_inflateIfNeededFor_a7421 ii_J5_inflateIfNeededFor_a7421 sm_J5_inflateIfNeededFor_a7421 se_J5_inflateIfNeededFor_a7421 rfl mw_J5_inflateIfNeededFor_a7421 ii_J5_inflateIfNeededFor_a7421 ⟨by decide, by decide⟩ (hb) rfl rfl (c_infl hb hq) rfl rfl (Nat.le_of_ble_eq_true rfl) (Nat.le_of_ble_eq_true rfl) (Nat.le_of_ble_eq_true rfl) ?_
  rintro _ _ _ ⟨rfl, rfl, rfl⟩
  refine r_aload_n (pc := 5) (i := 2) (tJ5_putStringAt_47b60.at 3 rfl) rfl rfl ?_
  refine r_aload_n (pc := 6) (i := 0) (tJ5_putStringAt_47b60.at 4 rfl) rfl rfl ?_
  refine r_get (pc := 7) (tJ5_putStringAt_47b60.at 5 rfl) gf_J5_15 (hb) rfl ?_
  refine r_iload_n (pc := 10) (i := 1) (tJ5_putStringAt_47b60.at 6 rfl) rfl rfl ?_
  refine r_aload_n (pc := 11) (i := 0) (tJ5_putStringAt_47b60.at 7 rfl) rfl rfl ?_
  refine r_get (pc := 12) (tJ5_putStringAt_47b60.at 8 rfl) gf_J5_22 (hb) rfl ?_
  refine r_sCall (M' := mJ0_getBytes_840e7) (pc := 15) (tJ5_putStringAt_47b60.at 9 rfl) ml_J5_399 rfl mw_J0_getBytes_840e7 ⟨by decide, by decide⟩ (hq) rfl (c_getBytes hq ok ha hk hc) rfl rfl (Nat.le_of_ble_eq_true rfl) (Nat.le_of_ble_eq_true rfl) (Nat.le_of_ble_eq_true rfl) ?_
  rintro _ _ _ ⟨rfl, rfl, f, hf, rfl⟩
  refine r_vret (pc := 18) (tJ5_putStringAt_47b60.at 10 rfl) rfl (Nat.le_of_ble_eq_true rfl) (Nat.le_of_ble_eq_true rfl) ?_
  exact ⟨rfl, rfl, f, hf, rfl⟩
/-- a builder at b that holds the text L; its array lies from lo on -/
def isSBn (v : Ev) (h : Hp) (lo b : Nat) (L : List Nat) : Prop := ∃ val cap f, b ≠ val ∧ lo ≤ val ∧ h b = some (sbE val L.length) ∧ h val = some (aB v cap f) ∧ L.length ≤ cap ∧ cap ≤ 400 ∧ txF f L ∧ fitB f cap
def pSBn (v : Ev) (h : Hp) (top lo b : Nat) (L : List Nat) : Option Value → Hp → Nat → Prop := fun r h' top' => r = some (.ref b) ∧ top ≤ top' ∧ isSBn v h' lo b L ∧ ∀ a, a < lo → a ≠ b → h' a = h a
theorem isS.up {v : Ev} {h h' : Hp} {q lo : Nat} {L : List Nat} (hq : isS v h q L) (hlo : ∀ w a c f, h q = some (ob 11 [.ref w, .int 0, .int a, .int c]) → h w = some (aB v L.length f) → q < lo ∧ w < lo) (hh : ∀ a, a < lo → h' a = h a) : isS v h' q L := by
  rcases hq with ⟨i, hi, rfl, rfl⟩ | ⟨w, a, b, f, h1, h2, h3⟩
  · exact Or.inl ⟨i, hi, rfl, rfl⟩
  · obtain ⟨q1, q2⟩ := hlo w a b f h1 h2
    exact Or.inr ⟨w, a, b, f, (hh q q1).trans h1, (hh w q2).trans h2, h3⟩
theorem txF_app {f g : Nat → Int32} {A B : List Nat} (ha : txF g A) (hb : txF f B) : txF (va_cpy f g 0 A.length B.length) (A ++ B) := by
  intro j hj
  rw [List.length_append] at hj
  unfold va_cpy
  split
  · next c =>
    rw [Nat.zero_add, hb (j - A.length) (by omega)]
    congr 1
    simp only [List.getD]
    rw [List.getElem?_append_right (by omega)]
  · next c =>
    rw [ha j (by omega)]
    congr 1
    simp only [List.getD]
    rw [List.getElem?_append_left (by omega)]
theorem fitB_app {f g : Nat → Int32} {k cap : Nat} {B : List Nat} (ha : fitB g cap) (hb : txF f B) (ok : okTx B) : fitB (va_cpy f g 0 k B.length) cap := by
  intro i hi
  unfold va_cpy
  split
  · rw [Nat.zero_add, hb _ (by omega)]
    exact fitsB_nI _ (ok.2 _ (by omega))
  · exact ha i hi
/-- the string that is appended lies below all that the builder has -/
def loS (v : Ev) (h : Hp) (q lo : Nat) (L : List Nat) : Prop := (∃ i, stRead i = true ∧ q = oA v (i + 1) ∧ L = stText i) ∨ ∃ w a b f, q < lo ∧ w < lo ∧ h q = some (ob 11 [.ref w, .int 0, .int a, .int b]) ∧ h w = some (aB v L.length f) ∧ txF f L
theorem loS.is {v : Ev} {h : Hp} {q lo : Nat} {L : List Nat} (s : loS v h q lo L) : isS v h q L := by
  rcases s with s | ⟨w, a, b, f, -, -, h1, h2, h3⟩
  · exact Or.inl s
  · exact Or.inr ⟨w, a, b, f, h1, h2, h3⟩
theorem loS.up {v : Ev} {h h' : Hp} {q lo : Nat} {L : List Nat} (s : loS v h q lo L) (hh : ∀ a, a < lo → h' a = h a) : loS v h' q lo L := by
  rcases s with s | ⟨w, a, b, f, q1, q2, h1, h2, h3⟩
  · exact Or.inl s
  · exact Or.inr ⟨w, a, b, f, q1, q2, (hh q q1).trans h1, (hh w q2).trans h2, h3⟩
theorem loS.up2 {v : Ev} {h h' : Hp} {q lo b : Nat} {fs : List Value} {L : List Nat} (s : loS v h q lo L) (hb : h b = some (ob 12 fs)) (hh : ∀ a, a < lo → a ≠ b → h' a = h a) : loS v h' q lo L := by
  rcases s with s | ⟨w, a, c, f, q1, q2, h1, h2, h3⟩
  · exact Or.inl s
  · have n1 : q ≠ b := fun e => by
      rw [e, hb] at h1
      cases h1
    have n2 : w ≠ b := fun e => by
      rw [e, hb] at h2
      cases h2
    exact Or.inr ⟨w, a, c, f, q1, q2, (hh q q1 n1).trans h1, (hh w q2 n2).trans h2, h3⟩
theorem c_app5 {v : Ev} {h : Hp} {top lo b q : Nat} {A B : List Nat} (sb : isSBn v h lo b A) (hq : loS v h q lo B) (ok : okTx B) (hl : A.length + B.length ≤ 200) (hlo : lo ≤ top) : Cal v mJ5_append_cf1ce 4 1 400 [.ref b, .ref q] h top (pSBn v h top lo b (A ++ B)) noX := by
  obtain ⟨val, cap, f, l1, l2, hb, hv, hc, hc4, hf, ft⟩ := sb
  have hne : b ≠ val := fun e => by
    rw [e, hv] at hb
    cases hb
  refine Cal.ofJ (by decide +kernel) rfl (Nat.le_of_ble_eq_true rfl) fun hz0 => ?_
  refine r_ls [some (.ref b), some (.ref q), none] rfl ?_
  refine r_lt hb (fun _ hbt => ?_)
  refine r_lt hv (fun _ hvt => ?_)
  refine r_aload_n (pc := 0) (i := 1) (tJ5_append_cf1ce.at 0 rfl) rfl rfl ?_
  refine r_ifnonnull (pc := 1) 9 (tJ5_append_cf1ce.at 1 rfl) (by decide) ?_
  refine r_aload_n (pc := 9) (i := 1) (tJ5_append_cf1ce.at 5 rfl) rfl rfl ?_
  refine r_sCall (M' := mJ0_length_8abf5) (pc := 10) (tJ5_append_cf1ce.at 6 rfl) ml_J5_32 rfl mw_J0_length_8abf5 ⟨by decide, by decide⟩ (hq.is) rfl (c_sLen hq.is) rfl rfl (Nat.le_of_ble_eq_true rfl) (Nat.le_of_ble_eq_true rfl) (Nat.le_of_ble_eq_true rfl) ?_
  rintro _ _ _ ⟨rfl, rfl, rfl⟩
  refine r_istore_n (pc := 13) (i := 2) (tJ5_append_cf1ce.at 7 rfl) rfl (by decide) ?_
  refine r_aload_n (pc := 14) (i := 0) (tJ5_append_cf1ce.at 8 rfl) rfl rfl ?_
  refine r_aload_n (pc := 15) (i := 0) (tJ5_append_cf1ce.at 9 rfl) rfl rfl ?_
  refine r_get (pc := 16) (tJ5_append_cf1ce.at 10 rfl) gf_J5_79 (hb) rfl ?_
  refine r_iload_n (pc := 19) (i := 2) (tJ5_append_cf1ce.at 11 rfl) rfl rfl ?_
  first | refine r_iaddN (pc := 20) (tJ5_append_cf1ce.at 12 rfl) ?_ | refine r_iaddZ (pc := 20) (tJ5_append_cf1ce.at 12 rfl) ?_ | refine r_iadd (pc := 20) (tJ5_append_cf1ce.at 12 rfl) ?_
  refine r_callU (MX := mJ5_ensureCapacityInternal_d00df) (M' := mJ5_ensureCapacityInternal_d00df) (C := "java/lang/StringBuilder") (pc := 21) (tJ5_append_cf1ce.at 13 rfl) ml_J5_100 rfl mw_J5_ensureCapacityInternal_d00df ii_J5_ensureCapacityInternal_d00df sm_J5_ensureCapacityInternal_d00df se_J5_ensureCapacityInternal_d00df rfl mw_J5_ensureCapacityInternal_d00df ii_J5_ensureCapacityInternal_d00df ⟨by decide, by decide⟩ (hb) rfl rfl (c_ensure (m := A.length + B.length) hb hv hc4 hl ft) rfl rfl (Nat.le_of_ble_eq_true rfl) (Nat.le_of_ble_eq_true rfl) (Nat.le_of_ble_eq_true rfl) ?_
  rintro _ h2 top2 ⟨rfl, ht', val', cap', f', hb', hv', m1, m2, m3, ft', fe, vv, bne, fr⟩
  have lv : lo ≤ val' := by
    rcases vv with rfl | vv
    · exact l2
    · omega
  have hq2 : loS v h2 q lo B := hq.up2 hb (fun a ha hab => fr a (by omega) (by omega))
  refine r_aload_n (pc := 24) (i := 0) (tJ5_append_cf1ce.at 14 rfl) rfl rfl ?_
  refine r_aload_n (pc := 25) (i := 0) (tJ5_append_cf1ce.at 15 rfl) rfl rfl ?_
  refine r_get (pc := 26) (tJ5_append_cf1ce.at 16 rfl) gf_J5_79 (hb') rfl ?_
  refine r_aload_n (pc := 29) (i := 1) (tJ5_append_cf1ce.at 17 rfl) rfl rfl ?_
  refine r_callU (MX := mJ5_putStringAt_47b60) (M' := mJ5_putStringAt_47b60) (C := "java/lang/StringBuilder") (pc := 30) (tJ5_append_cf1ce.at 18 rfl) ml_J5_208 rfl mw_J5_putStringAt_47b60 ii_J5_putStringAt_47b60 sm_J5_putStringAt_47b60 se_J5_putStringAt_47b60 rfl mw_J5_putStringAt_47b60 ii_J5_putStringAt_47b60 ⟨by decide, by decide⟩ (hb') rfl rfl (c_putStr hb' hq2.is ok hv' (by omega) m3) rfl rfl (Nat.le_of_ble_eq_true rfl) (Nat.le_of_ble_eq_true rfl) (Nat.le_of_ble_eq_true rfl) ?_
  rintro _ _ _ ⟨rfl, rfl, g, hg, rfl⟩
  refine r_aload_n (pc := 33) (i := 0) (tJ5_append_cf1ce.at 19 rfl) rfl rfl ?_
  refine r_dup (pc := 34) (tJ5_append_cf1ce.at 20 rfl) rfl ?_
  refine r_get (pc := 35) (tJ5_append_cf1ce.at 21 rfl) gf_J5_79 ((hp_ne _ _ bne).trans hb') rfl ?_
  refine r_iload_n (pc := 38) (i := 2) (tJ5_append_cf1ce.at 22 rfl) rfl rfl ?_
  first | refine r_iaddN (pc := 39) (tJ5_append_cf1ce.at 23 rfl) ?_ | refine r_iaddZ (pc := 39) (tJ5_append_cf1ce.at 23 rfl) ?_ | refine r_iadd (pc := 39) (tJ5_append_cf1ce.at 23 rfl) ?_
  refine r_put (pc := 40) (tJ5_append_cf1ce.at 24 rfl) pf_J5_79 ((hp_ne _ _ bne).trans hb') (Nat.le_of_ble_eq_true rfl) (rfl) (rfl) ?_
  refine r_aload_n (pc := 43) (i := 0) (tJ5_append_cf1ce.at 25 rfl) rfl rfl ?_
  refine r_aret (pc := 44) (tJ5_append_cf1ce.at 26 rfl) rfl (Or.inl ⟨_, rfl⟩) (Nat.le_of_ble_eq_true rfl) (Nat.le_of_ble_eq_true rfl) ?_
  have ha' : txF f' A := fun j hj => (fe j (by omega)).trans (hf j hj)
  refine ⟨rfl, ht', ⟨val', cap', _, bne, lv, ?_, (hp_ne _ _ (Ne.symm bne)).trans (hp_eq _ _ _), ?_, m3, txF_app ha' hg, fitB_app ft' hg ok⟩, fun a ha hab => ?_⟩
  · rw [hp_eq, List.length_append]
    rfl
  · rw [List.length_append]
    exact m1
  · rw [hp_ne _ _ (by omega), hp_ne _ _ (by omega)]
    exact fr a (by omega) (by omega)
theorem isSBn.cell {v : Ev} {h : Hp} {lo b : Nat} {L : List Nat} (sb : isSBn v h lo b L) : ∃ val, h b = some (sbE val L.length) := by
  obtain ⟨val, cap, f, l1, l2, hb, -⟩ := sb
  exact ⟨val, hb⟩
theorem c_appSn {v : Ev} {h : Hp} {top lo b q : Nat} {A B : List Nat} (sb : isSBn v h lo b A) (hq : loS v h q lo B) (ok : okTx B) (hl : A.length + B.length ≤ 200) (hlo : lo ≤ top) : Cal v mJ4_append_15ec4 5 1 400 [.ref b, .ref q] h top (pSBn v h top lo b (A ++ B)) noX := by
  obtain ⟨val, hb⟩ := sb.cell
  refine Cal.ofJ (by decide +kernel) rfl (Nat.le_of_ble_eq_true rfl) fun hz0 => ?_
  refine r_ls [some (.ref b), some (.ref q)] rfl ?_
  refine r_aload_n (pc := 0) (i := 0) (tJ4_append_15ec4.at 0 rfl) rfl rfl ?_
  refine r_aload_n (pc := 1) (i := 1) (tJ4_append_15ec4.at 1 rfl) rfl rfl ?_
  refine r_callP (M' := mJ5_append_cf1ce) (C := "java/lang/StringBuilder") (N := 4) (pc := 2) (tJ4_append_15ec4.at 2 rfl) ml_J4_29 sm_J5_append_cf1ce su_J4 (by decide +kernel) ik_J4 rfl mw_J5_append_cf1ce ii_J5_append_cf1ce ⟨by decide, by decide⟩ (hb) rfl rfl (c_app5 sb hq ok hl hlo) rfl rfl (Nat.le_of_ble_eq_true rfl) (Nat.le_of_ble_eq_true rfl) (Nat.le_of_ble_eq_true rfl) ?_
  rintro _ h2 top2 ⟨rfl, p2⟩
  refine r_pop (pc := 5) (tJ4_append_15ec4.at 3 rfl) rfl ?_
  refine r_aload_n (pc := 6) (i := 0) (tJ4_append_15ec4.at 4 rfl) rfl rfl ?_
  refine r_aret (pc := 7) (tJ4_append_15ec4.at 5 rfl) rfl (Or.inl ⟨_, rfl⟩) (Nat.le_of_ble_eq_true rfl) (Nat.le_of_ble_eq_true rfl) ?_
  exact ⟨rfl, p2⟩
theorem c_appBrn {v : Ev} {h : Hp} {top lo b q : Nat} {A B : List Nat} (sb : isSBn v h lo b A) (hq : loS v h q lo B) (ok : okTx B) (hl : A.length + B.length ≤ 200) (hlo : lo ≤ top) : Cal v mJ4_append_cf1ce 6 1 400 [.ref b, .ref q] h top (pSBn v h top lo b (A ++ B)) noX := by
  obtain ⟨val, hb⟩ := sb.cell
  refine Cal.ofJ (by decide +kernel) rfl (Nat.le_of_ble_eq_true rfl) fun hz0 => ?_
  refine r_ls [some (.ref b), some (.ref q)] rfl ?_
  refine r_aload_n (pc := 0) (i := 0) (tJ4_append_cf1ce.at 0 rfl) rfl rfl ?_
  refine r_aload_n (pc := 1) (i := 1) (tJ4_append_cf1ce.at 1 rfl) rfl rfl ?_
  refine r_callV (M' := mJ4_append_15ec4) (pc := 2) (tJ4_append_cf1ce.at 2 rfl) ml_J4_23 rfl mw_J4_append_15ec4 ⟨by decide, by decide⟩ (hb) rfl rfl (c_appSn sb hq ok hl hlo) rfl rfl (Nat.le_of_ble_eq_true rfl) (Nat.le_of_ble_eq_true rfl) (Nat.le_of_ble_eq_true rfl) ?_
  rintro _ h2 top2 ⟨rfl, p2⟩
  refine r_aret (pc := 5) (tJ4_append_cf1ce.at 3 rfl) rfl (Or.inl ⟨_, rfl⟩) (Nat.le_of_ble_eq_true rfl) (Nat.le_of_ble_eq_true rfl) ?_
  exact ⟨rfl, p2⟩
/-- a builder's constructor -/
def pSBin (v : Ev) (h : Hp) (top lo b : Nat) (L : List Nat) : Option Value → Hp → Nat → Prop := fun r h' top' => r = none ∧ top ≤ top' ∧ isSBn v h' lo b L ∧ ∀ a, a < lo → a ≠ b → h' a = h a
theorem fitB_0 {n : Nat} : fitB (fun _ => 0) n := fun _ _ => rfl
theorem c_asbS {v : Ev} {h : Hp} {top lo b q : Nat} {B : List Nat} (hb : h b = some (ob 12 [.null, .int 0, .int 0, .int 0])) (hq : loS v h q lo B) (ok : okTx B) (hl : B.length ≤ 100) (hlo : lo ≤ top) : Cal v mJ5_init_a7421 7 2 800 [.ref b, .ref q] h top (pSBin v h top lo b B) noX := by
  refine Cal.ofJ (by decide +kernel) rfl (Nat.le_of_ble_eq_true rfl) fun hz0 => ?_
  refine r_ls [some (.ref b), some (.ref q), none, none, none] rfl ?_
  refine r_lt hb (fun _ hbt => ?_)
  refine r_aload_n (pc := 0) (i := 0) (tJ5_init_a7421.at 0 rfl) rfl rfl ?_
  refine r_objInit (pc := 1) (tJ5_init_a7421.at 1 rfl) ml_J5_3 oi_inst oi_code (Nat.le_of_ble_eq_true rfl) (Nat.le_of_ble_eq_true rfl) ?_
  refine r_aload_n (pc := 4) (i := 1) (tJ5_init_a7421.at 2 rfl) rfl rfl ?_
  refine r_sCall (M' := mJ0_length_8abf5) (pc := 5) (tJ5_init_a7421.at 3 rfl) ml_J5_32 rfl mw_J0_length_8abf5 ⟨by decide, by decide⟩ (hq.is) rfl (c_sLen hq.is) rfl rfl (Nat.le_of_ble_eq_true rfl) (Nat.le_of_ble_eq_true rfl) (Nat.le_of_ble_eq_true rfl) ?_
  rintro _ _ _ ⟨rfl, rfl, rfl⟩
  refine r_istore_n (pc := 8) (i := 2) (tJ5_init_a7421.at 4 rfl) rfl (by decide) ?_
  refine r_iload_n (pc := 9) (i := 2) (tJ5_init_a7421.at 5 rfl) rfl rfl ?_
  refine r_ldcI (pc := 10) (tJ5_init_a7421.at 6 rfl) ic_J5_38 ?_
  refine r_eq rfl (st2 := [.int (nI 2147483631), .int (nI B.length)]) rfl ?_
  refine r_icmp_geN (pc := 12) 22 (tJ5_init_a7421.at 7 rfl) (by decide) (by omega) (by omega) (fun c => by omega) (fun _ => ?_)
  refine r_iload_n (pc := 15) (i := 2) (tJ5_init_a7421.at 8 rfl) rfl rfl ?_
  refine r_bipush (pc := 16) (w := nI 16) (tJ5_init_a7421.at 9 rfl) (by decide) ?_
  first | refine r_iaddN (pc := 18) (tJ5_init_a7421.at 10 rfl) ?_ | refine r_iaddZ (pc := 18) (tJ5_init_a7421.at 10 rfl) ?_ | refine r_iadd (pc := 18) (tJ5_init_a7421.at 10 rfl) ?_
  refine r_goto (pc := 19) 24 (tJ5_init_a7421.at 11 rfl) (by decide) ?_
  refine r_istore_n (pc := 24) (i := 3) (tJ5_init_a7421.at 13 rfl) rfl (by decide) ?_
  refine r_aload_n (pc := 25) (i := 1) (tJ5_init_a7421.at 14 rfl) rfl rfl ?_
  refine r_sCall (M' := mJ0_coder_7d493) (pc := 26) (tJ5_init_a7421.at 15 rfl) ml_J5_40 rfl mw_J0_coder_7d493 ⟨by decide, by decide⟩ (hq.is) rfl (c_sCoder hq.is) rfl rfl (Nat.le_of_ble_eq_true rfl) (Nat.le_of_ble_eq_true rfl) (Nat.le_of_ble_eq_true rfl) ?_
  rintro _ _ _ ⟨rfl, rfl, rfl⟩
  refine r_istore (pc := 29) (i := 4) (tJ5_init_a7421.at 16 rfl) (by decide) ?_
  refine r_aload_n (pc := 31) (i := 0) (tJ5_init_a7421.at 17 rfl) rfl rfl ?_
  refine r_iload (pc := 32) (i := 4) (tJ5_init_a7421.at 18 rfl) rfl ?_
  refine r_put (pc := 34) (tJ5_init_a7421.at 19 rfl) pf_J5_22 (hb) (Nat.le_of_ble_eq_true rfl) (rfl) (rfl) ?_
  refine r_aload_n (pc := 37) (i := 0) (tJ5_init_a7421.at 20 rfl) rfl rfl ?_
  refine r_iload (pc := 38) (i := 4) (tJ5_init_a7421.at 21 rfl) rfl ?_
  refine r_if_ne (pc := 40) 49 (tJ5_init_a7421.at 22 rfl) (by decide) (fun z => absurd rfl z) (fun _ => ?_)
  refine r_iload_n (pc := 43) (i := 3) (tJ5_init_a7421.at 23 rfl) rfl rfl ?_
  refine r_newaB (pc := 44) (B.length + 16) (tJ5_init_a7421.at 24 rfl) rfl (by omega) ac_byte (by show 0 + 1 ≤ 2; omega) (by show 0 + (B.length + 16) ≤ 800; omega) (fun fr => ?_)
  refine r_widen (c2 := 1) (s2 := 400) (by omega) (by omega) ?_
  refine r_goto (pc := 46) 53 (tJ5_init_a7421.at 25 rfl) (by decide) ?_
  refine r_put (pc := 53) (tJ5_init_a7421.at 28 rfl) pf_J5_15 ((hp_ne _ _ (by omega)).trans (hp_eq _ _ _)) (Nat.le_of_ble_eq_true rfl) (rfl) (rfl) ?_
  refine r_aload_n (pc := 56) (i := 0) (tJ5_init_a7421.at 29 rfl) rfl rfl ?_
  refine r_aload_n (pc := 57) (i := 1) (tJ5_init_a7421.at 30 rfl) rfl rfl ?_
  have key : ∀ h1 : Hp, isSBn v h1 lo b [] → (∀ a, a < lo → a ≠ b → h1 a = h a) → Cal v mJ4_append_cf1ce 6 1 400 [.ref b, .ref q] h1 (top + 1) (pSBn v h1 (top + 1) lo b B) noX := fun h1 s1 f1 => by
    have := c_appBrn (top := top + 1) (A := []) (B := B) s1 (hq.up2 hb f1) ok (by simp; omega) (by omega)
    rwa [List.nil_append] at this
  refine r_callU (MX := mJ5_append_cf1ce) (M' := mJ4_append_cf1ce) (C := "java/lang/StringBuilder") (pc := 58) (tJ5_init_a7421.at 31 rfl) ml_J5_43 rfl mw_J5_append_cf1ce ii_J5_append_cf1ce sm_J5_append_cf1ce se_J5_append_cf1ce rfl mw_J4_append_cf1ce ii_J4_append_cf1ce ⟨by decide, by decide⟩ (hp_eq _ _ _) rfl rfl (key _ ⟨top, B.length + 16, fun _ => 0, by omega, by omega, hp_eq _ _ _, (hp_ne _ _ (by omega)).trans (hp_eq _ _ _), Nat.zero_le _, by omega, fun j hj => absurd hj (Nat.not_lt_zero j), fitB_0⟩ (fun a ha hab => by rw [hp_ne _ _ (by omega), hp_ne _ _ (by omega), hp_ne _ _ (by omega)])) rfl rfl (Nat.le_of_ble_eq_true rfl) (Nat.le_of_ble_eq_true rfl) (Nat.le_of_ble_eq_true rfl) ?_
  rintro _ h2 top2 ⟨rfl, p1, p2, p3⟩
  refine r_pop (pc := 61) (tJ5_init_a7421.at 32 rfl) rfl ?_
  refine r_vret (pc := 62) (tJ5_init_a7421.at 33 rfl) rfl (Nat.le_of_ble_eq_true rfl) (Nat.le_of_ble_eq_true rfl) ?_
  exact ⟨rfl, by omega, p2, fun a ha hab => by rw [p3 a ha hab, hp_ne _ _ (by omega), hp_ne _ _ (by omega), hp_ne _ _ (by omega)]⟩
theorem c_sbSn {v : Ev} {h : Hp} {top lo b q : Nat} {B : List Nat} (hb : h b = some (ob 12 [.null, .int 0, .int 0, .int 0])) (hq : loS v h q lo B) (ok : okTx B) (hl : B.length ≤ 100) (hlo : lo ≤ top) : Cal v mJ4_init_a7421 8 2 800 [.ref b, .ref q] h top (pSBin v h top lo b B) noX := by
  refine Cal.ofJ (by decide +kernel) rfl (Nat.le_of_ble_eq_true rfl) fun hz0 => ?_
  refine r_ls [some (.ref b), some (.ref q)] rfl ?_
  refine r_aload_n (pc := 0) (i := 0) (tJ4_init_a7421.at 0 rfl) rfl rfl ?_
  refine r_aload_n (pc := 1) (i := 1) (tJ4_init_a7421.at 1 rfl) rfl rfl ?_
  refine r_callI (M' := mJ5_init_a7421) (pc := 2) (tJ4_init_a7421.at 2 rfl) (Or.inl ml_J4_7) rfl rfl mw_J5_init_a7421 ⟨by decide, by decide⟩ (c_asbS hb hq ok hl hlo) rfl rfl (Nat.le_of_ble_eq_true rfl) (Nat.le_of_ble_eq_true rfl) (Nat.le_of_ble_eq_true rfl) ?_
  rintro _ h2 top2 ⟨rfl, p2⟩
  refine r_vret (pc := 5) (tJ4_init_a7421.at 3 rfl) rfl (Nat.le_of_ble_eq_true rfl) (Nat.le_of_ble_eq_true rfl) ?_
  exact ⟨rfl, p2⟩
theorem c_asb0 {v : Ev} {h : Hp} {top lo b : Nat} (hb : h b = some (ob 12 [.null, .int 0, .int 0, .int 0])) (hlo : lo ≤ top) : Cal v mJ5_init_d00df 1 1 400 [.ref b, .int (nI 16)] h top (pSBin v h top lo b []) noX := by
  refine Cal.ofJ (by decide +kernel) rfl (Nat.le_of_ble_eq_true rfl) fun hz0 => ?_
  refine r_ls [some (.ref b), some (.int (nI 16))] rfl ?_
  refine r_lt hb (fun _ hbt => ?_)
  refine r_aload_n (pc := 0) (i := 0) (tJ5_init_d00df.at 0 rfl) rfl rfl ?_
  refine r_objInit (pc := 1) (tJ5_init_d00df.at 1 rfl) ml_J5_3 oi_inst oi_code (Nat.le_of_ble_eq_true rfl) (Nat.le_of_ble_eq_true rfl) ?_
  refine r_gsC (pc := 4) (tJ5_init_d00df.at 2 rfl) fl_J5_18 ?_
  refine r_if_eq (pc := 7) 25 (tJ5_init_d00df.at 3 rfl) (by decide) (fun z => absurd z (by decide)) (fun _ => ?_)
  refine r_aload_n (pc := 10) (i := 0) (tJ5_init_d00df.at 4 rfl) rfl rfl ?_
  refine r_iload_n (pc := 11) (i := 1) (tJ5_init_d00df.at 5 rfl) rfl rfl ?_
  refine r_newaB (pc := 12) 16 (tJ5_init_d00df.at 6 rfl) rfl (by omega) ac_byte (Nat.le_of_ble_eq_true rfl) (Nat.le_of_ble_eq_true rfl) (fun fr => ?_)
  refine r_widen (c2 := 1) (s2 := 400) (by omega) (by omega) ?_
  refine r_put (pc := 14) (tJ5_init_d00df.at 7 rfl) pf_J5_15 ((hp_ne _ _ (by omega)).trans hb) (Nat.le_of_ble_eq_true rfl) (rfl) (rfl) ?_
  refine r_aload_n (pc := 17) (i := 0) (tJ5_init_d00df.at 8 rfl) rfl rfl ?_
  refine r_iconst (pc := 18) (w := nI 0) (tJ5_init_d00df.at 9 rfl) (by decide) ?_
  refine r_put (pc := 19) (tJ5_init_d00df.at 10 rfl) pf_J5_22 (hp_eq _ _ _) (Nat.le_of_ble_eq_true rfl) (rfl) (rfl) ?_
  refine r_goto (pc := 22) 38 (tJ5_init_d00df.at 11 rfl) (by decide) ?_
  refine r_vret (pc := 38) (tJ5_init_d00df.at 19 rfl) rfl (Nat.le_of_ble_eq_true rfl) (Nat.le_of_ble_eq_true rfl) ?_
  refine ⟨rfl, by omega, ⟨top, 16, fun _ => 0, by omega, by omega, hp_eq _ _ _, ?_, Nat.zero_le _, by omega, fun j hj => absurd hj (Nat.not_lt_zero j), fitB_0⟩, fun a ha hab => ?_⟩
  · rw [hp_ne _ _ (by omega), hp_ne _ _ (by omega)]
    exact hp_eq _ _ _
  · rw [hp_ne _ _ (by omega), hp_ne _ _ (by omega), hp_ne _ _ (by omega)]
theorem c_sb0n {v : Ev} {h : Hp} {top lo b : Nat} (hb : h b = some (ob 12 [.null, .int 0, .int 0, .int 0])) (hlo : lo ≤ top) : Cal v mJ4_init_da8c8 2 1 400 [.ref b] h top (pSBin v h top lo b []) noX := by
  refine Cal.ofJ (by decide +kernel) rfl (Nat.le_of_ble_eq_true rfl) fun hz0 => ?_
  refine r_ls [some (.ref b)] rfl ?_
  refine r_aload_n (pc := 0) (i := 0) (tJ4_init_da8c8.at 0 rfl) rfl rfl ?_
  refine r_bipush (pc := 1) (w := nI 16) (tJ4_init_da8c8.at 1 rfl) (by decide) ?_
  refine r_callI (M' := mJ5_init_d00df) (pc := 3) (tJ4_init_da8c8.at 2 rfl) (Or.inl ml_J4_1) rfl rfl mw_J5_init_d00df ⟨by decide, by decide⟩ (c_asb0 hb hlo) rfl rfl (Nat.le_of_ble_eq_true rfl) (Nat.le_of_ble_eq_true rfl) (Nat.le_of_ble_eq_true rfl) ?_
  rintro _ h2 top2 ⟨rfl, p2⟩
  refine r_vret (pc := 6) (tJ4_init_da8c8.at 3 rfl) rfl (Nat.le_of_ble_eq_true rfl) (Nat.le_of_ble_eq_true rfl) ?_
  exact ⟨rfl, p2⟩
theorem txF_snoc {f : Nat → Int32} {A : List Nat} {c : Nat} {x : Int32} (h : txF f A) (hx : x = nI c) : txF (upd f A.length x) (A ++ [c]) := by
  intro j hj
  rw [List.length_append] at hj
  simp only [List.length_singleton] at hj
  unfold upd
  by_cases e : j = A.length
  · rw [if_pos e, hx, e]
    congr 1
    simp [List.getD]
  · rw [if_neg e, h j (by omega)]
    congr 1
    simp only [List.getD]
    rw [List.getElem?_append_left (by omega)]
theorem fitB_upd {f : Nat → Int32} {n cap c : Nat} {x : Int32} (h : fitB f cap) (hx : x = nI c) (hc : c < 128) : fitB (upd f n x) cap := by
  intro i hi
  unfold upd
  split
  · rw [hx]
    exact fitsB_nI c hc
  · exact h i hi
theorem chBy : ∀ c, c < 128 → vp_nar .byte ((nI c).toInt8.toInt32) = nI c := by decide +kernel
theorem chBz : ∀ c, c < 128 → vp_nar .byte (nI c) = nI c := by decide +kernel
theorem c_canEnc {v : Ev} {h : Hp} {top c : Nat} (hc : c < 128) : Cal v mJ1_canEncode_fc78d 1 0 0 [.int (nI c)] h top (pR (.int 1) h top) noX := by
  refine Cal.ofJ (by decide +kernel) rfl (Nat.le_of_ble_eq_true rfl) fun hz0 => ?_
  refine r_ls [some (.int (nI c))] rfl ?_
  refine r_iload_n (pc := 0) (i := 0) (tJ1_canEncode_fc78d.at 0 rfl) rfl rfl ?_
  refine r_sipush (pc := 1) (w := nI 255) (tJ1_canEncode_fc78d.at 1 rfl) (by decide) ?_
  refine r_icmp_gtN (pc := 4) 11 (tJ1_canEncode_fc78d.at 2 rfl) (by decide) (by omega) (by omega) (fun c => by omega) (fun _ => ?_)
  refine r_iconst (pc := 7) (w := nI 1) (tJ1_canEncode_fc78d.at 3 rfl) (by decide) ?_
  refine r_goto (pc := 8) 12 (tJ1_canEncode_fc78d.at 4 rfl) (by decide) ?_
  refine r_zret (pc := 12) (tJ1_canEncode_fc78d.at 6 rfl) rfl rfl (Nat.le_of_ble_eq_true rfl) (Nat.le_of_ble_eq_true rfl) ?_
  exact ⟨rfl, rfl, rfl⟩
theorem c_appC5 {v : Ev} {h : Hp} {top lo b c : Nat} {A : List Nat} (sb : isSBn v h lo b A) (hc8 : c < 128) (hl : A.length + 1 ≤ 200) (hlo : lo ≤ top) : Cal v mJ5_append_3fe6f 4 1 400 [.ref b, .int (nI c)] h top (pSBn v h top lo b (A ++ [c])) noX := by
  obtain ⟨val, cap, f, l1, l2, hb, hv, hc, hc4, hf, ft⟩ := sb
  refine Cal.ofJ (by decide +kernel) rfl (Nat.le_of_ble_eq_true rfl) fun hz0 => ?_
  refine r_ls [some (.ref b), some (.int (nI c))] rfl ?_
  refine r_lt hb (fun _ hbt => ?_)
  refine r_lt hv (fun _ hvt => ?_)
  refine r_aload_n (pc := 0) (i := 0) (tJ5_append_3fe6f.at 0 rfl) rfl rfl ?_
  refine r_aload_n (pc := 1) (i := 0) (tJ5_append_3fe6f.at 1 rfl) rfl rfl ?_
  refine r_get (pc := 2) (tJ5_append_3fe6f.at 2 rfl) gf_J5_79 (hb) rfl ?_
  refine r_iconst (pc := 5) (w := nI 1) (tJ5_append_3fe6f.at 3 rfl) (by decide) ?_
  first | refine r_iaddN (pc := 6) (tJ5_append_3fe6f.at 4 rfl) ?_ | refine r_iaddZ (pc := 6) (tJ5_append_3fe6f.at 4 rfl) ?_ | refine r_iadd (pc := 6) (tJ5_append_3fe6f.at 4 rfl) ?_
  refine r_callU (MX := mJ5_ensureCapacityInternal_d00df) (M' := mJ5_ensureCapacityInternal_d00df) (C := "java/lang/StringBuilder") (pc := 7) (tJ5_append_3fe6f.at 5 rfl) ml_J5_100 rfl mw_J5_ensureCapacityInternal_d00df ii_J5_ensureCapacityInternal_d00df sm_J5_ensureCapacityInternal_d00df se_J5_ensureCapacityInternal_d00df rfl mw_J5_ensureCapacityInternal_d00df ii_J5_ensureCapacityInternal_d00df ⟨by decide, by decide⟩ (hb) rfl rfl (c_ensure (m := A.length + 1) hb hv hc4 hl ft) rfl rfl (Nat.le_of_ble_eq_true rfl) (Nat.le_of_ble_eq_true rfl) (Nat.le_of_ble_eq_true rfl) ?_
  rintro _ h2 top2 ⟨rfl, ht', val', cap', f', hb', hv', m1, m2, m3, ft', fe, vv, bne, fr⟩
  have lv : lo ≤ val' := by
    rcases vv with rfl | vv
    · exact l2
    · omega
  refine r_aload_n (pc := 10) (i := 0) (tJ5_append_3fe6f.at 6 rfl) rfl rfl ?_
  refine r_callU (MX := mJ5_isLatin1_aae02) (M' := mJ5_isLatin1_aae02) (C := "java/lang/StringBuilder") (pc := 11) (tJ5_append_3fe6f.at 7 rfl) ml_J5_83 rfl mw_J5_isLatin1_aae02 ii_J5_isLatin1_aae02 sm_J5_isLatin1_aae02 se_J5_isLatin1_aae02 rfl mw_J5_isLatin1_aae02 ii_J5_isLatin1_aae02 ⟨by decide, by decide⟩ (hb') rfl rfl (c_isL5 hb') rfl rfl (Nat.le_of_ble_eq_true rfl) (Nat.le_of_ble_eq_true rfl) (Nat.le_of_ble_eq_true rfl) ?_
  rintro _ _ _ ⟨rfl, rfl, rfl⟩
  refine r_if_eq (pc := 14) 45 (tJ5_append_3fe6f.at 8 rfl) (by decide) (fun z => absurd z (by decide)) (fun _ => ?_)
  refine r_iload_n (pc := 17) (i := 1) (tJ5_append_3fe6f.at 9 rfl) rfl rfl ?_
  refine r_callS (M' := mJ1_canEncode_fc78d) (pc := 18) (tJ5_append_3fe6f.at 10 rfl) ml_J5_191 rfl mw_J1_canEncode_fc78d ⟨by decide, by decide⟩ (c_canEnc hc8) rfl rfl (Nat.le_of_ble_eq_true rfl) (Nat.le_of_ble_eq_true rfl) (Nat.le_of_ble_eq_true rfl) ?_
  rintro _ _ _ ⟨rfl, rfl, rfl⟩
  refine r_if_eq (pc := 21) 45 (tJ5_append_3fe6f.at 11 rfl) (by decide) (fun z => absurd z (by decide)) (fun _ => ?_)
  refine r_aload_n (pc := 24) (i := 0) (tJ5_append_3fe6f.at 12 rfl) rfl rfl ?_
  refine r_get (pc := 25) (tJ5_append_3fe6f.at 13 rfl) gf_J5_15 (hb') rfl ?_
  refine r_aload_n (pc := 28) (i := 0) (tJ5_append_3fe6f.at 14 rfl) rfl rfl ?_
  refine r_dup (pc := 29) (tJ5_append_3fe6f.at 15 rfl) rfl ?_
  refine r_get (pc := 30) (tJ5_append_3fe6f.at 16 rfl) gf_J5_79 (hb') rfl ?_
  refine r_dup_x1 (pc := 33) (tJ5_append_3fe6f.at 17 rfl) rfl rfl ?_
  refine r_iconst (pc := 34) (w := nI 1) (tJ5_append_3fe6f.at 18 rfl) (by decide) ?_
  first | refine r_iaddN (pc := 35) (tJ5_append_3fe6f.at 19 rfl) ?_ | refine r_iaddZ (pc := 35) (tJ5_append_3fe6f.at 19 rfl) ?_ | refine r_iadd (pc := 35) (tJ5_append_3fe6f.at 19 rfl) ?_
  refine r_put (pc := 36) (tJ5_append_3fe6f.at 20 rfl) pf_J5_79 (hb') (Nat.le_of_ble_eq_true rfl) (rfl) (rfl) ?_
  refine r_iload_n (pc := 39) (i := 1) (tJ5_append_3fe6f.at 21 rfl) rfl rfl ?_
  refine r_i2b (pc := 40) (tJ5_append_3fe6f.at 22 rfl) ?_
  refine r_bast (pc := 41) (tJ5_append_3fe6f.at 23 rfl) ((hp_ne _ _ (Ne.symm bne)).trans hv') (A.length) (rfl) (by omega) (by omega) ?_
  refine r_goto (pc := 42) 75 (tJ5_append_3fe6f.at 24 rfl) (by decide) ?_
  refine r_aload_n (pc := 75) (i := 0) (tJ5_append_3fe6f.at 41 rfl) rfl rfl ?_
  refine r_aret (pc := 76) (tJ5_append_3fe6f.at 42 rfl) rfl (Or.inl ⟨_, rfl⟩) (Nat.le_of_ble_eq_true rfl) (Nat.le_of_ble_eq_true rfl) ?_
  have ha' : txF f' A := fun j hj => (fe j (by omega)).trans (hf j hj)
  refine ⟨rfl, ht', ⟨val', cap', _, bne, lv, ?_, hp_eq _ _ _, ?_, m3, txF_snoc ha' (chBy c hc8), fitB_upd ft' (chBy c hc8) hc8⟩, fun a ha hab => ?_⟩
  · rw [hp_ne _ _ bne, hp_eq, List.length_append]
    rfl
  · rw [List.length_append]
    exact m1
  · rw [hp_ne _ _ (by omega), hp_ne _ _ (by omega)]
    exact fr a (by omega) (by omega)
theorem c_appCn {v : Ev} {h : Hp} {top lo b c : Nat} {A : List Nat} (sb : isSBn v h lo b A) (hc8 : c < 128) (hl : A.length + 1 ≤ 200) (hlo : lo ≤ top) : Cal v mJ4_append_cf468 5 1 400 [.ref b, .int (nI c)] h top (pSBn v h top lo b (A ++ [c])) noX := by
  obtain ⟨val, hb⟩ := sb.cell
  refine Cal.ofJ (by decide +kernel) rfl (Nat.le_of_ble_eq_true rfl) fun hz0 => ?_
  refine r_ls [some (.ref b), some (.int (nI c))] rfl ?_
  refine r_aload_n (pc := 0) (i := 0) (tJ4_append_cf468.at 0 rfl) rfl rfl ?_
  refine r_iload_n (pc := 1) (i := 1) (tJ4_append_cf468.at 1 rfl) rfl rfl ?_
  refine r_callP (M' := mJ5_append_3fe6f) (C := "java/lang/StringBuilder") (N := 4) (pc := 2) (tJ4_append_cf468.at 2 rfl) ml_J4_50 sm_J5_append_3fe6f su_J4 (by decide +kernel) ik_J4 rfl mw_J5_append_3fe6f ii_J5_append_3fe6f ⟨by decide, by decide⟩ (hb) rfl rfl (c_appC5 sb hc8 hl hlo) rfl rfl (Nat.le_of_ble_eq_true rfl) (Nat.le_of_ble_eq_true rfl) (Nat.le_of_ble_eq_true rfl) ?_
  rintro _ h2 top2 ⟨rfl, p2⟩
  refine r_pop (pc := 5) (tJ4_append_cf468.at 3 rfl) rfl ?_
  refine r_aload_n (pc := 6) (i := 0) (tJ4_append_cf468.at 4 rfl) rfl rfl ?_
  refine r_aret (pc := 7) (tJ4_append_cf468.at 5 rfl) rfl (Or.inl ⟨_, rfl⟩) (Nat.le_of_ble_eq_true rfl) (Nat.le_of_ble_eq_true rfl) ?_
  exact ⟨rfl, p2⟩
theorem c_strSz {v : Ev} {h : Hp} {top d : Nat} (hd : d < 10) : Cal v mJ6_stringSize_0f7a4 1 0 0 [.int (nI d)] h top (pR (.int (nI 1)) h top) noX := by
  refine Cal.ofJ (by decide +kernel) rfl (Nat.le_of_ble_eq_true rfl) fun hz0 => ?_
  refine r_ls [some (.int (nI d)), none, none, none] rfl ?_
  refine r_iconst (pc := 0) (w := nI 1) (tJ6_stringSize_0f7a4.at 0 rfl) (by decide) ?_
  refine r_istore_n (pc := 1) (i := 1) (tJ6_stringSize_0f7a4.at 1 rfl) rfl (by decide) ?_
  refine r_iload_n (pc := 2) (i := 0) (tJ6_stringSize_0f7a4.at 2 rfl) rfl rfl ?_
  refine r_if_ltN (pc := 3) 11 (tJ6_stringSize_0f7a4.at 3 rfl) (by decide) (by omega) ?_
  refine r_iconst (pc := 6) (w := nI 0) (tJ6_stringSize_0f7a4.at 4 rfl) (by decide) ?_
  refine r_istore_n (pc := 7) (i := 1) (tJ6_stringSize_0f7a4.at 5 rfl) rfl (by decide) ?_
  refine r_iload_n (pc := 8) (i := 0) (tJ6_stringSize_0f7a4.at 6 rfl) rfl rfl ?_
  refine r_inegN (pc := 9) (tJ6_stringSize_0f7a4.at 7 rfl) ?_
  refine r_istore_n (pc := 10) (i := 0) (tJ6_stringSize_0f7a4.at 8 rfl) rfl (by decide) ?_
  refine r_bipush (pc := 11) (w := zI (-10)) (tJ6_stringSize_0f7a4.at 9 rfl) (by decide) ?_
  refine r_istore_n (pc := 13) (i := 2) (tJ6_stringSize_0f7a4.at 10 rfl) rfl (by decide) ?_
  refine r_iconst (pc := 14) (w := nI 1) (tJ6_stringSize_0f7a4.at 11 rfl) (by decide) ?_
  refine r_istore_n (pc := 15) (i := 3) (tJ6_stringSize_0f7a4.at 12 rfl) rfl (by decide) ?_
  refine r_iload_n (pc := 16) (i := 3) (tJ6_stringSize_0f7a4.at 13 rfl) rfl rfl ?_
  refine r_bipush (pc := 17) (w := nI 10) (tJ6_stringSize_0f7a4.at 14 rfl) (by decide) ?_
  refine r_icmp_geN (pc := 19) 42 (tJ6_stringSize_0f7a4.at 15 rfl) (by decide) (by omega) (by omega) (fun c => by omega) (fun _ => ?_)
  refine r_iload_n (pc := 22) (i := 0) (tJ6_stringSize_0f7a4.at 16 rfl) rfl rfl ?_
  refine r_iload_n (pc := 23) (i := 2) (tJ6_stringSize_0f7a4.at 17 rfl) rfl rfl ?_
  refine r_icmp_leZ (pc := 24) 31 (tJ6_stringSize_0f7a4.at 18 rfl) (by decide) ⟨by omega, by omega⟩ ⟨by omega, by omega⟩ (fun c => by omega) (fun _ => ?_)
  refine r_iload_n (pc := 27) (i := 3) (tJ6_stringSize_0f7a4.at 19 rfl) rfl rfl ?_
  refine r_iload_n (pc := 28) (i := 1) (tJ6_stringSize_0f7a4.at 20 rfl) rfl rfl ?_
  first | refine r_iaddN (pc := 29) (tJ6_stringSize_0f7a4.at 21 rfl) ?_ | refine r_iaddZ (pc := 29) (tJ6_stringSize_0f7a4.at 21 rfl) ?_ | refine r_iadd (pc := 29) (tJ6_stringSize_0f7a4.at 21 rfl) ?_
  refine r_iret (pc := 30) (tJ6_stringSize_0f7a4.at 22 rfl) rfl (Nat.le_of_ble_eq_true rfl) (Nat.le_of_ble_eq_true rfl) ?_
  exact ⟨rfl, rfl, rfl⟩
theorem c_getCh {v : Ev} {h : Hp} {top d n a cap : Nat} {f : Nat → Int32} (hd : d < 10) (ha : h a = some (aB v cap f)) (hn : n < cap) (hc : cap ≤ 400) : Cal v mJ6_getChars_ba4f3 1 0 0 [.int (nI d), .int (nI (n + 1)), .ref a] h top (pR (.int (nI n)) (hp h a (aB v cap (upd f n (nI (48 + d))))) top) noX := by
  refine Cal.ofJ (by decide +kernel) rfl (Nat.le_of_ble_eq_true rfl) fun hz0 => ?_
  refine r_ls [some (.int (nI d)), some (.int (nI (n + 1))), some (.ref a), none, none, none, none] rfl ?_
  refine r_iload_n (pc := 0) (i := 1) (tJ6_getChars_ba4f3.at 0 rfl) rfl rfl ?_
  refine r_istore (pc := 1) (i := 5) (tJ6_getChars_ba4f3.at 1 rfl) (by decide) ?_
  refine r_iload_n (pc := 3) (i := 0) (tJ6_getChars_ba4f3.at 2 rfl) rfl rfl ?_
  refine r_if_geN (pc := 4) 11 (tJ6_getChars_ba4f3.at 3 rfl) (by decide) (by omega) ?_
  refine r_iconst (pc := 11) (w := nI 0) (tJ6_getChars_ba4f3.at 6 rfl) (by decide) ?_
  refine r_istore (pc := 12) (i := 6) (tJ6_getChars_ba4f3.at 7 rfl) (by decide) ?_
  refine r_iload (pc := 14) (i := 6) (tJ6_getChars_ba4f3.at 8 rfl) rfl ?_
  refine r_if_ne (pc := 16) 22 (tJ6_getChars_ba4f3.at 9 rfl) (by decide) (fun z => absurd rfl z) (fun _ => ?_)
  refine r_iload_n (pc := 19) (i := 0) (tJ6_getChars_ba4f3.at 10 rfl) rfl rfl ?_
  refine r_inegN (pc := 20) (tJ6_getChars_ba4f3.at 11 rfl) ?_
  refine r_istore_n (pc := 21) (i := 0) (tJ6_getChars_ba4f3.at 12 rfl) rfl (by decide) ?_
  refine r_iload_n (pc := 22) (i := 0) (tJ6_getChars_ba4f3.at 13 rfl) rfl rfl ?_
  refine r_bipush (pc := 23) (w := zI (-100)) (tJ6_getChars_ba4f3.at 14 rfl) (by decide) ?_
  refine r_icmp_gtZ (pc := 25) 72 (tJ6_getChars_ba4f3.at 15 rfl) (by decide) ⟨by omega, by omega⟩ ⟨by omega, by omega⟩ (fun _ => ?_) (fun c => by omega)
  refine r_aload_n (pc := 72) (i := 2) (tJ6_getChars_ba4f3.at 43 rfl) rfl rfl ?_
  first | refine r_idecN (pc := 73) (tJ6_getChars_ba4f3.at 44 rfl) rfl (by decide) ?_ | refine r_iinc (pc := 73) (tJ6_getChars_ba4f3.at 44 rfl) rfl rfl (by decide) ?_
  refine r_iload (pc := 76) (i := 5) (tJ6_getChars_ba4f3.at 45 rfl) rfl ?_
  refine r_gsD (pc := 78) (tJ6_getChars_ba4f3.at 46 rfl) fl_J6_83 ?_
  refine r_iload_n (pc := 81) (i := 0) (tJ6_getChars_ba4f3.at 47 rfl) rfl rfl ?_
  refine r_inegZ (pc := 82) (tJ6_getChars_ba4f3.at 48 rfl) ?_
  rw [Int.neg_neg, zI_nat]
  refine r_baldD (pc := 83) (j := d) (tJ6_getChars_ba4f3.at 49 rfl) (by omega) ?_
  refine r_bast (pc := 84) (tJ6_getChars_ba4f3.at 50 rfl) (ha) (n) (rfl) (by omega) (by omega) ?_
  refine r_iload_n (pc := 85) (i := 0) (tJ6_getChars_ba4f3.at 51 rfl) rfl rfl ?_
  refine r_bipush (pc := 86) (w := zI (-9)) (tJ6_getChars_ba4f3.at 52 rfl) (by decide) ?_
  refine r_icmp_geZ (pc := 88) 104 (tJ6_getChars_ba4f3.at 53 rfl) (by decide) ⟨by omega, by omega⟩ ⟨by omega, by omega⟩ (fun _ => ?_) (fun c => by omega)
  refine r_iload (pc := 104) (i := 6) (tJ6_getChars_ba4f3.at 62 rfl) rfl ?_
  refine r_if_eq (pc := 106) 118 (tJ6_getChars_ba4f3.at 63 rfl) (by decide) (fun _ => ?_) (fun z => absurd rfl z)
  refine r_iload (pc := 118) (i := 5) (tJ6_getChars_ba4f3.at 69 rfl) rfl ?_
  refine r_iret (pc := 120) (tJ6_getChars_ba4f3.at 70 rfl) rfl (Nat.le_of_ble_eq_true rfl) (Nat.le_of_ble_eq_true rfl) ?_
  refine ⟨rfl, ?_, rfl⟩
  rw [chBz (48 + d % 10) (by omega), Nat.mod_eq_of_lt hd]
theorem c_appI5 {v : Ev} {h : Hp} {top lo b d : Nat} {A : List Nat} (sb : isSBn v h lo b A) (hd : d < 10) (hl : A.length + 1 ≤ 200) (hlo : lo ≤ top) : Cal v mJ5_append_c97b9 4 1 400 [.ref b, .int (nI d)] h top (pSBn v h top lo b (A ++ [48 + d])) noX := by
  obtain ⟨val, cap, f, l1, l2, hb, hv, hc, hc4, hf, ft⟩ := sb
  refine Cal.ofJ (by decide +kernel) rfl (Nat.le_of_ble_eq_true rfl) fun hz0 => ?_
  refine r_ls [some (.ref b), some (.int (nI d)), none, none] rfl ?_
  refine r_lt hb (fun _ hbt => ?_)
  refine r_lt hv (fun _ hvt => ?_)
  refine r_aload_n (pc := 0) (i := 0) (tJ5_append_c97b9.at 0 rfl) rfl rfl ?_
  refine r_get (pc := 1) (tJ5_append_c97b9.at 1 rfl) gf_J5_79 (hb) rfl ?_
  refine r_istore_n (pc := 4) (i := 2) (tJ5_append_c97b9.at 2 rfl) rfl (by decide) ?_
  refine r_iload_n (pc := 5) (i := 2) (tJ5_append_c97b9.at 3 rfl) rfl rfl ?_
  refine r_iload_n (pc := 6) (i := 1) (tJ5_append_c97b9.at 4 rfl) rfl rfl ?_
  refine r_callS (M' := mJ6_stringSize_0f7a4) (pc := 7) (tJ5_append_c97b9.at 5 rfl) ml_J5_245 rfl mw_J6_stringSize_0f7a4 ⟨by decide, by decide⟩ (c_strSz hd) rfl rfl (Nat.le_of_ble_eq_true rfl) (Nat.le_of_ble_eq_true rfl) (Nat.le_of_ble_eq_true rfl) ?_
  rintro _ _ _ ⟨rfl, rfl, rfl⟩
  first | refine r_iaddN (pc := 10) (tJ5_append_c97b9.at 6 rfl) ?_ | refine r_iaddZ (pc := 10) (tJ5_append_c97b9.at 6 rfl) ?_ | refine r_iadd (pc := 10) (tJ5_append_c97b9.at 6 rfl) ?_
  refine r_istore_n (pc := 11) (i := 3) (tJ5_append_c97b9.at 7 rfl) rfl (by decide) ?_
  refine r_aload_n (pc := 12) (i := 0) (tJ5_append_c97b9.at 8 rfl) rfl rfl ?_
  refine r_iload_n (pc := 13) (i := 3) (tJ5_append_c97b9.at 9 rfl) rfl rfl ?_
  refine r_callU (MX := mJ5_ensureCapacityInternal_d00df) (M' := mJ5_ensureCapacityInternal_d00df) (C := "java/lang/StringBuilder") (pc := 14) (tJ5_append_c97b9.at 10 rfl) ml_J5_100 rfl mw_J5_ensureCapacityInternal_d00df ii_J5_ensureCapacityInternal_d00df sm_J5_ensureCapacityInternal_d00df se_J5_ensureCapacityInternal_d00df rfl mw_J5_ensureCapacityInternal_d00df ii_J5_ensureCapacityInternal_d00df ⟨by decide, by decide⟩ (hb) rfl rfl (c_ensure (m := A.length + 1) hb hv hc4 hl ft) rfl rfl (Nat.le_of_ble_eq_true rfl) (Nat.le_of_ble_eq_true rfl) (Nat.le_of_ble_eq_true rfl) ?_
  rintro _ h2 top2 ⟨rfl, ht', val', cap', f', hb', hv', m1, m2, m3, ft', fe, vv, bne, fr⟩
  have lv : lo ≤ val' := by
    rcases vv with rfl | vv
    · exact l2
    · omega
  refine r_aload_n (pc := 17) (i := 0) (tJ5_append_c97b9.at 11 rfl) rfl rfl ?_
  refine r_callU (MX := mJ5_isLatin1_aae02) (M' := mJ5_isLatin1_aae02) (C := "java/lang/StringBuilder") (pc := 18) (tJ5_append_c97b9.at 12 rfl) ml_J5_83 rfl mw_J5_isLatin1_aae02 ii_J5_isLatin1_aae02 sm_J5_isLatin1_aae02 se_J5_isLatin1_aae02 rfl mw_J5_isLatin1_aae02 ii_J5_isLatin1_aae02 ⟨by decide, by decide⟩ (hb') rfl rfl (c_isL5 hb') rfl rfl (Nat.le_of_ble_eq_true rfl) (Nat.le_of_ble_eq_true rfl) (Nat.le_of_ble_eq_true rfl) ?_
  rintro _ _ _ ⟨rfl, rfl, rfl⟩
  refine r_if_eq (pc := 21) 37 (tJ5_append_c97b9.at 13 rfl) (by decide) (fun z => absurd z (by decide)) (fun _ => ?_)
  refine r_iload_n (pc := 24) (i := 1) (tJ5_append_c97b9.at 14 rfl) rfl rfl ?_
  refine r_iload_n (pc := 25) (i := 3) (tJ5_append_c97b9.at 15 rfl) rfl rfl ?_
  refine r_aload_n (pc := 26) (i := 0) (tJ5_append_c97b9.at 16 rfl) rfl rfl ?_
  refine r_get (pc := 27) (tJ5_append_c97b9.at 17 rfl) gf_J5_15 (hb') rfl ?_
  refine r_callS (M' := mJ6_getChars_ba4f3) (pc := 30) (tJ5_append_c97b9.at 18 rfl) ml_J5_248 rfl mw_J6_getChars_ba4f3 ⟨by decide, by decide⟩ (c_getCh hd hv' (by omega) m3) rfl rfl (Nat.le_of_ble_eq_true rfl) (Nat.le_of_ble_eq_true rfl) (Nat.le_of_ble_eq_true rfl) ?_
  rintro _ _ _ ⟨rfl, rfl, rfl⟩
  refine r_pop (pc := 33) (tJ5_append_c97b9.at 19 rfl) rfl ?_
  refine r_goto (pc := 34) 48 (tJ5_append_c97b9.at 20 rfl) (by decide) ?_
  refine r_aload_n (pc := 48) (i := 0) (tJ5_append_c97b9.at 28 rfl) rfl rfl ?_
  refine r_iload_n (pc := 49) (i := 3) (tJ5_append_c97b9.at 29 rfl) rfl rfl ?_
  refine r_put (pc := 50) (tJ5_append_c97b9.at 30 rfl) pf_J5_79 ((hp_ne _ _ bne).trans hb') (Nat.le_of_ble_eq_true rfl) (rfl) (rfl) ?_
  refine r_aload_n (pc := 53) (i := 0) (tJ5_append_c97b9.at 31 rfl) rfl rfl ?_
  refine r_aret (pc := 54) (tJ5_append_c97b9.at 32 rfl) rfl (Or.inl ⟨_, rfl⟩) (Nat.le_of_ble_eq_true rfl) (Nat.le_of_ble_eq_true rfl) ?_
  have ha' : txF f' A := fun j hj => (fe j (by omega)).trans (hf j hj)
  refine ⟨rfl, ht', ⟨val', cap', _, bne, lv, ?_, (hp_ne _ _ (Ne.symm bne)).trans (hp_eq _ _ _), ?_, m3, txF_snoc ha' rfl, fitB_upd ft' rfl (by omega)⟩, fun a ha hab => ?_⟩
  · rw [hp_eq, List.length_append]
    rfl
  · rw [List.length_append]
    exact m1
  · rw [hp_ne _ _ (by omega), hp_ne _ _ (by omega)]
    exact fr a (by omega) (by omega)
theorem c_appIn {v : Ev} {h : Hp} {top lo b d : Nat} {A : List Nat} (sb : isSBn v h lo b A) (hd : d < 10) (hl : A.length + 1 ≤ 200) (hlo : lo ≤ top) : Cal v mJ4_append_bf812 5 1 400 [.ref b, .int (nI d)] h top (pSBn v h top lo b (A ++ [48 + d])) noX := by
  obtain ⟨val, hb⟩ := sb.cell
  refine Cal.ofJ (by decide +kernel) rfl (Nat.le_of_ble_eq_true rfl) fun hz0 => ?_
  refine r_ls [some (.ref b), some (.int (nI d))] rfl ?_
  refine r_aload_n (pc := 0) (i := 0) (tJ4_append_bf812.at 0 rfl) rfl rfl ?_
  refine r_iload_n (pc := 1) (i := 1) (tJ4_append_bf812.at 1 rfl) rfl rfl ?_
  refine r_callP (M' := mJ5_append_c97b9) (C := "java/lang/StringBuilder") (N := 4) (pc := 2) (tJ4_append_bf812.at 2 rfl) ml_J4_53 sm_J5_append_c97b9 su_J4 (by decide +kernel) ik_J4 rfl mw_J5_append_c97b9 ii_J5_append_c97b9 ⟨by decide, by decide⟩ (hb) rfl rfl (c_appI5 sb hd hl hlo) rfl rfl (Nat.le_of_ble_eq_true rfl) (Nat.le_of_ble_eq_true rfl) (Nat.le_of_ble_eq_true rfl) ?_
  rintro _ h2 top2 ⟨rfl, p2⟩
  refine r_pop (pc := 5) (tJ4_append_bf812.at 3 rfl) rfl ?_
  refine r_aload_n (pc := 6) (i := 0) (tJ4_append_bf812.at 4 rfl) rfl rfl ?_
  refine r_aret (pc := 7) (tJ4_append_bf812.at 5 rfl) rfl (Or.inl ⟨_, rfl⟩) (Nat.le_of_ble_eq_true rfl) (Nat.le_of_ble_eq_true rfl) ?_
  exact ⟨rfl, p2⟩
theorem c_getVal {v : Ev} {h : Hp} {top b val n : Nat} (hb : h b = some (sbE val n)) : Cal v mJ5_getValue_6d5f1 1 0 0 [.ref b] h top (pR (.ref val) h top) noX := by
  refine Cal.ofJ (by decide +kernel) rfl (Nat.le_of_ble_eq_true rfl) fun hz0 => ?_
  refine r_ls [some (.ref b)] rfl ?_
  refine r_aload_n (pc := 0) (i := 0) (tJ5_getValue_6d5f1.at 0 rfl) rfl rfl ?_
  refine r_get (pc := 1) (tJ5_getValue_6d5f1.at 1 rfl) gf_J5_15 (hb) rfl ?_
  refine r_aret (pc := 4) (tJ5_getValue_6d5f1.at 2 rfl) rfl (Or.inr ⟨_, rfl⟩) (Nat.le_of_ble_eq_true rfl) (Nat.le_of_ble_eq_true rfl) ?_
  exact ⟨rfl, rfl, rfl⟩
theorem c_len5 {v : Ev} {h : Hp} {top b val n : Nat} (hb : h b = some (sbE val n)) : Cal v mJ5_length_8abf5 1 0 0 [.ref b] h top (pR (.int (nI n)) h top) noX := by
  refine Cal.ofJ (by decide +kernel) rfl (Nat.le_of_ble_eq_true rfl) fun hz0 => ?_
  refine r_ls [some (.ref b)] rfl ?_
  refine r_aload_n (pc := 0) (i := 0) (tJ5_length_8abf5.at 0 rfl) rfl rfl ?_
  refine r_get (pc := 1) (tJ5_length_8abf5.at 1 rfl) gf_J5_79 (hb) rfl ?_
  refine r_iret (pc := 4) (tJ5_length_8abf5.at 2 rfl) rfl (Nat.le_of_ble_eq_true rfl) (Nat.le_of_ble_eq_true rfl) ?_
  exact ⟨rfl, rfl, rfl⟩
theorem c_len4 {v : Ev} {h : Hp} {top b val n : Nat} (hb : h b = some (sbE val n)) : Cal v mJ4_length_8abf5 2 0 0 [.ref b] h top (pR (.int (nI n)) h top) noX := by
  refine Cal.ofJ (by decide +kernel) rfl (Nat.le_of_ble_eq_true rfl) fun hz0 => ?_
  refine r_ls [some (.ref b)] rfl ?_
  refine r_aload_n (pc := 0) (i := 0) (tJ4_length_8abf5.at 0 rfl) rfl rfl ?_
  refine r_callP (M' := mJ5_length_8abf5) (C := "java/lang/StringBuilder") (N := 4) (pc := 1) (tJ4_length_8abf5.at 1 rfl) ml_J4_343 sm_J5_length_8abf5 su_J4 (by decide +kernel) ik_J4 rfl mw_J5_length_8abf5 ii_J5_length_8abf5 ⟨by decide, by decide⟩ (hb) rfl rfl (c_len5 hb) rfl rfl (Nat.le_of_ble_eq_true rfl) (Nat.le_of_ble_eq_true rfl) (Nat.le_of_ble_eq_true rfl) ?_
  rintro _ _ _ ⟨rfl, rfl, rfl⟩
  refine r_iret (pc := 4) (tJ4_length_8abf5.at 2 rfl) rfl (Nat.le_of_ble_eq_true rfl) (Nat.le_of_ble_eq_true rfl) ?_
  exact ⟨rfl, rfl, rfl⟩
theorem c_chkLen {v : Ev} {h : Hp} {top n : Nat} (hn : n ≤ 1000) : Cal v mJ7_checkLength_df160 1 0 0 [.int (nI 0), .int (nI n)] h top (pV h top) noX := by
  refine Cal.ofJ (by decide +kernel) rfl (Nat.le_of_ble_eq_true rfl) fun hz0 => ?_
  refine r_ls [some (.int (nI 0)), some (.int (nI n))] rfl ?_
  refine r_iload_n (pc := 0) (i := 1) (tJ7_checkLength_df160.at 0 rfl) rfl rfl ?_
  refine r_iload_n (pc := 1) (i := 0) (tJ7_checkLength_df160.at 1 rfl) rfl rfl ?_
  refine r_icmp_geN (pc := 2) 37 (tJ7_checkLength_df160.at 2 rfl) (by decide) (by omega) (by omega) (fun _ => ?_) (fun c => by omega)
  refine r_vret (pc := 37) (tJ7_checkLength_df160.at 17 rfl) rfl (Nat.le_of_ble_eq_true rfl) (Nat.le_of_ble_eq_true rfl) ?_
  exact ⟨rfl, rfl, rfl⟩
def pCR (v : Ev) (h : Hp) (top n : Nat) (f : Nat → Int32) : Option Value → Hp → Nat → Prop := fun r h' top' => r = some (.ref top) ∧ top' = top + 1 ∧ ∃ g, h' = hp h top (aB v n g) ∧ ∀ j, j < n → g j = f j
theorem c_copyRB {v : Ev} {h : Hp} {top a cap n : Nat} {f : Nat → Int32} (ha : h a = some (aB v cap f)) (hn : n ≤ cap) (hc : cap ≤ 400) (hf : fitB f cap) : Cal v mJ7_copyOfRangeByte_39247 2 1 400 [.ref a, .int (nI 0), .int (nI n)] h top (pCR v h top n f) noX := by
  refine Cal.ofJ (by decide +kernel) rfl (Nat.le_of_ble_eq_true rfl) fun hz0 => ?_
  refine r_ls [some (.ref a), some (.int (nI 0)), some (.int (nI n)), none, none] rfl ?_
  refine r_lt ha (fun _ hat => ?_)
  refine r_iload_n (pc := 0) (i := 1) (tJ7_copyOfRangeByte_39247.at 0 rfl) rfl rfl ?_
  refine r_iload_n (pc := 1) (i := 2) (tJ7_copyOfRangeByte_39247.at 1 rfl) rfl rfl ?_
  refine r_callS (M' := mJ7_checkLength_df160) (pc := 2) (tJ7_copyOfRangeByte_39247.at 2 rfl) ml_J7_343 rfl mw_J7_checkLength_df160 ⟨by decide, by decide⟩ (c_chkLen (by omega)) rfl rfl (Nat.le_of_ble_eq_true rfl) (Nat.le_of_ble_eq_true rfl) (Nat.le_of_ble_eq_true rfl) ?_
  rintro _ _ _ ⟨rfl, rfl, rfl⟩
  refine r_iload_n (pc := 5) (i := 2) (tJ7_copyOfRangeByte_39247.at 3 rfl) rfl rfl ?_
  refine r_iload_n (pc := 6) (i := 1) (tJ7_copyOfRangeByte_39247.at 4 rfl) rfl rfl ?_
  refine r_isubN (pc := 7) (tJ7_copyOfRangeByte_39247.at 5 rfl) (by omega) ?_
  refine r_istore_n (pc := 8) (i := 3) (tJ7_copyOfRangeByte_39247.at 6 rfl) rfl (by decide) ?_
  refine r_iload_n (pc := 9) (i := 3) (tJ7_copyOfRangeByte_39247.at 7 rfl) rfl rfl ?_
  refine r_newaB (pc := 10) n (tJ7_copyOfRangeByte_39247.at 8 rfl) rfl (by omega) ac_byte (by show 0 + 1 ≤ 1; omega) (by show 0 + n ≤ 400; omega) (fun fr => ?_)
  refine r_widen (c2 := 1) (s2 := 400) (by omega) (by omega) ?_
  refine r_astore (pc := 12) (i := 4) (tJ7_copyOfRangeByte_39247.at 9 rfl) (by decide) ?_
  refine r_aload_n (pc := 14) (i := 0) (tJ7_copyOfRangeByte_39247.at 10 rfl) rfl rfl ?_
  refine r_iload_n (pc := 15) (i := 1) (tJ7_copyOfRangeByte_39247.at 11 rfl) rfl rfl ?_
  refine r_aload (pc := 16) (i := 4) (tJ7_copyOfRangeByte_39247.at 12 rfl) rfl ?_
  refine r_iconst (pc := 18) (w := nI 0) (tJ7_copyOfRangeByte_39247.at 13 rfl) (by decide) ?_
  refine r_aload_n (pc := 19) (i := 0) (tJ7_copyOfRangeByte_39247.at 14 rfl) rfl rfl ?_
  refine r_alenB (pc := 20) (tJ7_copyOfRangeByte_39247.at 15 rfl) ((hp_ne _ _ (by omega)).trans ha) ?_
  refine r_iload_n (pc := 21) (i := 1) (tJ7_copyOfRangeByte_39247.at 16 rfl) rfl rfl ?_
  refine r_isubN (pc := 22) (tJ7_copyOfRangeByte_39247.at 17 rfl) (by omega) ?_
  refine r_iload_n (pc := 23) (i := 3) (tJ7_copyOfRangeByte_39247.at 18 rfl) rfl rfl ?_
  first | refine r_mminN (pc := 24) (tJ7_copyOfRangeByte_39247.at 19 rfl) ml_J7_304 mw_min_s mw_math mw_min_c (Nat.le_of_ble_eq_true rfl) (Nat.le_of_ble_eq_true rfl) (Nat.le_of_ble_eq_true rfl) (Nat.le_of_ble_eq_true rfl) (by omega) (by omega) ?_ | refine r_mminZ (pc := 24) (tJ7_copyOfRangeByte_39247.at 19 rfl) ml_J7_304 mw_min_s mw_math mw_min_c (Nat.le_of_ble_eq_true rfl) (Nat.le_of_ble_eq_true rfl) (Nat.le_of_ble_eq_true rfl) (Nat.le_of_ble_eq_true rfl) ⟨by omega, by omega⟩ ⟨by omega, by omega⟩ ?_ | refine r_mmin (pc := 24) (tJ7_copyOfRangeByte_39247.at 19 rfl) ml_J7_304 mw_min_s mw_math mw_min_c (Nat.le_of_ble_eq_true rfl) (Nat.le_of_ble_eq_true rfl) (Nat.le_of_ble_eq_true rfl) (Nat.le_of_ble_eq_true rfl) ?_
  rw [show min (cap - 0) (n - 0) = n by omega]
  refine r_acopyB (pc := 27) 0 n (tJ7_copyOfRangeByte_39247.at 20 rfl) ml_J7_150 ((hp_ne _ _ (by omega)).trans ha) (hp_eq _ _ _) rfl rfl rfl (fun i hi => hf i (by omega)) hn (by omega) (by omega) (by omega) (by omega) (Nat.le_of_ble_eq_true rfl) (Nat.le_of_ble_eq_true rfl) ?_
  rw [hp_hp]
  refine r_aload (pc := 30) (i := 4) (tJ7_copyOfRangeByte_39247.at 21 rfl) rfl ?_
  refine r_aret (pc := 32) (tJ7_copyOfRangeByte_39247.at 22 rfl) rfl (Or.inr ⟨_, rfl⟩) (Nat.le_of_ble_eq_true rfl) (Nat.le_of_ble_eq_true rfl) ?_
  refine ⟨rfl, rfl, _, rfl, fun j hj => ?_⟩
  unfold va_cpy
  rw [if_pos (by omega), show 0 + (j - 0) = j by omega]
theorem c_copyR {v : Ev} {h : Hp} {top a cap n : Nat} {f : Nat → Int32} (ha : h a = some (aB v cap f)) (hn : n ≤ cap) (hc : cap ≤ 400) (hf : fitB f cap) : Cal v mJ7_copyOfRange_39247 3 1 400 [.ref a, .int 0, .int (nI n)] h top (pCR v h top n f) noX := by
  refine Cal.ofJ (by decide +kernel) rfl (Nat.le_of_ble_eq_true rfl) fun hz0 => ?_
  refine r_ls [some (.ref a), some (.int 0), some (.int (nI n))] rfl ?_
  refine r_iload_n (pc := 0) (i := 1) (tJ7_copyOfRange_39247.at 0 rfl) rfl rfl ?_
  refine r_if_ne (pc := 1) 10 (tJ7_copyOfRange_39247.at 1 rfl) (by decide) (fun z => absurd rfl z) (fun _ => ?_)
  refine r_iload_n (pc := 4) (i := 2) (tJ7_copyOfRange_39247.at 2 rfl) rfl rfl ?_
  refine r_aload_n (pc := 5) (i := 0) (tJ7_copyOfRange_39247.at 3 rfl) rfl rfl ?_
  refine r_alenB (pc := 6) (tJ7_copyOfRange_39247.at 4 rfl) (ha) ?_
  refine r_icmp_eqN (pc := 7) 17 (tJ7_copyOfRange_39247.at 5 rfl) (by decide) (by omega) (by omega) (fun e => ?_) (fun _ => ?_)
  · subst e
    refine r_aload_n (pc := 17) (i := 0) (tJ7_copyOfRange_39247.at 11 rfl) rfl rfl ?_
    refine r_cloneB (pc := 18) (tJ7_copyOfRange_39247.at 12 rfl) ml_J7_310 ha hf (Nat.le_of_ble_eq_true rfl) (Nat.le_of_ble_eq_true rfl) (by show 0 + 1 ≤ 1; omega) (by show 0 + n ≤ 400; omega) (fun fr => ?_)
    refine r_widen (c2 := 1) (s2 := 400) (by omega) (by omega) ?_
    refine r_castB (pc := 21) (tJ7_copyOfRange_39247.at 13 rfl) kl_J7_311 (hp_eq _ _ _) ?_
    refine r_aret (pc := 24) (tJ7_copyOfRange_39247.at 14 rfl) rfl (Or.inr ⟨_, rfl⟩) (Nat.le_of_ble_eq_true rfl) (Nat.le_of_ble_eq_true rfl) ?_
    exact ⟨rfl, rfl, f, rfl, fun _ _ => rfl⟩
  · refine r_aload_n (pc := 10) (i := 0) (tJ7_copyOfRange_39247.at 6 rfl) rfl rfl ?_
    refine r_iload_n (pc := 11) (i := 1) (tJ7_copyOfRange_39247.at 7 rfl) rfl rfl ?_
    refine r_iload_n (pc := 12) (i := 2) (tJ7_copyOfRange_39247.at 8 rfl) rfl rfl ?_
    refine r_callS (M' := mJ7_copyOfRangeByte_39247) (pc := 13) (tJ7_copyOfRange_39247.at 9 rfl) ml_J7_339 rfl mw_J7_copyOfRangeByte_39247 ⟨by decide, by decide⟩ (c_copyRB ha hn hc hf) rfl rfl (Nat.le_of_ble_eq_true rfl) (Nat.le_of_ble_eq_true rfl) (Nat.le_of_ble_eq_true rfl) ?_
    rintro _ _ _ ⟨rfl, rfl, g, rfl, hg⟩
    refine r_aret (pc := 16) (tJ7_copyOfRange_39247.at 10 rfl) rfl (Or.inr ⟨_, rfl⟩) (Nat.le_of_ble_eq_true rfl) (Nat.le_of_ble_eq_true rfl) ?_
    exact ⟨rfl, rfl, g, rfl, hg⟩
/-- a new string: its object at q -/
def pStr (v : Ev) (h : Hp) (top q : Nat) (L : List Nat) : Option Value → Hp → Nat → Prop := fun r h' top' => r = none ∧ top' = top + 1 ∧ (∃ f, h' q = some (ob 11 [.ref top, .int 0, .int 0, .int 0]) ∧ h' top = some (aB v L.length f) ∧ txF f L) ∧ ∀ a, a < top → a ≠ q → h' a = h a
theorem c_strI {v : Ev} {h : Hp} {top lo b q : Nat} {L : List Nat} {nl : Value} (hnl : nl = .null) (hq : h q = some (ob 11 [.null, .int 0, .int 0, .int 0])) (sb : isSBn v h lo b L) : Cal v mJ0_init_db425 4 1 400 [.ref q, .ref b, nl] h top (pStr v h top q L) noX := by
  obtain ⟨val, cap, f, l1, l2, hb, hv, hc, hc4, hf, ft⟩ := sb
  subst hnl
  have q1 : b ≠ q := fun e => by
    rw [e, hq] at hb
    cases hb
  have q2 : val ≠ q := fun e => by
    rw [e, hq] at hv
    cases hv
  refine Cal.ofJ (by decide +kernel) rfl (Nat.le_of_ble_eq_true rfl) fun hz0 => ?_
  refine r_ls [some (.ref q), some (.ref b), some (.null), none, none] rfl ?_
  refine r_lt hb (fun _ hbt => ?_)
  refine r_lt hv (fun _ hvt => ?_)
  refine r_lt hq (fun _ hqt => ?_)
  refine r_aload_n (pc := 0) (i := 0) (tJ0_init_db425.at 0 rfl) rfl rfl ?_
  refine r_objInit (pc := 1) (tJ0_init_db425.at 1 rfl) ml_J0_1 oi_inst oi_code (Nat.le_of_ble_eq_true rfl) (Nat.le_of_ble_eq_true rfl) ?_
  refine r_aload_n (pc := 4) (i := 1) (tJ0_init_db425.at 2 rfl) rfl rfl ?_
  refine r_callU (MX := mJ5_getValue_6d5f1) (M' := mJ5_getValue_6d5f1) (C := "java/lang/StringBuilder") (pc := 5) (tJ0_init_db425.at 3 rfl) ml_J0_552 rfl mw_J5_getValue_6d5f1 ii_J5_getValue_6d5f1 sm_J5_getValue_6d5f1 se_J5_getValue_6d5f1 rfl mw_J5_getValue_6d5f1 ii_J5_getValue_6d5f1 ⟨by decide, by decide⟩ (hb) rfl rfl (c_getVal hb) rfl rfl (Nat.le_of_ble_eq_true rfl) (Nat.le_of_ble_eq_true rfl) (Nat.le_of_ble_eq_true rfl) ?_
  rintro _ _ _ ⟨rfl, rfl, rfl⟩
  refine r_astore_n (pc := 8) (i := 3) (tJ0_init_db425.at 4 rfl) rfl (by decide) ?_
  refine r_aload_n (pc := 9) (i := 1) (tJ0_init_db425.at 5 rfl) rfl rfl ?_
  refine r_callU (MX := mJ5_length_8abf5) (M' := mJ4_length_8abf5) (C := "java/lang/StringBuilder") (pc := 10) (tJ0_init_db425.at 6 rfl) ml_J0_549 rfl mw_J5_length_8abf5 ii_J5_length_8abf5 sm_J5_length_8abf5 se_J5_length_8abf5 rfl mw_J4_length_8abf5 ii_J4_length_8abf5 ⟨by decide, by decide⟩ hb rfl rfl (c_len4 hb) rfl rfl (Nat.le_of_ble_eq_true rfl) (Nat.le_of_ble_eq_true rfl) (Nat.le_of_ble_eq_true rfl) ?_
  rintro _ _ _ ⟨rfl, rfl, rfl⟩
  refine r_istore (pc := 13) (i := 4) (tJ0_init_db425.at 7 rfl) (by decide) ?_
  refine r_aload_n (pc := 15) (i := 1) (tJ0_init_db425.at 8 rfl) rfl rfl ?_
  refine r_callU (MX := mJ5_isLatin1_aae02) (M' := mJ5_isLatin1_aae02) (C := "java/lang/StringBuilder") (pc := 16) (tJ0_init_db425.at 9 rfl) ml_J0_1047 rfl mw_J5_isLatin1_aae02 ii_J5_isLatin1_aae02 sm_J5_isLatin1_aae02 se_J5_isLatin1_aae02 rfl mw_J5_isLatin1_aae02 ii_J5_isLatin1_aae02 ⟨by decide, by decide⟩ (hb) rfl rfl (c_isL5 hb) rfl rfl (Nat.le_of_ble_eq_true rfl) (Nat.le_of_ble_eq_true rfl) (Nat.le_of_ble_eq_true rfl) ?_
  rintro _ _ _ ⟨rfl, rfl, rfl⟩
  refine r_if_eq (pc := 19) 41 (tJ0_init_db425.at 10 rfl) (by decide) (fun z => absurd z (by decide)) (fun _ => ?_)
  refine r_aload_n (pc := 22) (i := 0) (tJ0_init_db425.at 11 rfl) rfl rfl ?_
  refine r_iconst (pc := 23) (w := nI 0) (tJ0_init_db425.at 12 rfl) (by decide) ?_
  refine r_putF (pc := 24) (tJ0_init_db425.at 13 rfl) pff_J0_15 rfl (hq) (Nat.le_of_ble_eq_true rfl) rfl rfl ?_
  refine r_aload_n (pc := 27) (i := 0) (tJ0_init_db425.at 14 rfl) rfl rfl ?_
  refine r_aload_n (pc := 28) (i := 3) (tJ0_init_db425.at 15 rfl) rfl rfl ?_
  refine r_iconst (pc := 29) (w := nI 0) (tJ0_init_db425.at 16 rfl) (by decide) ?_
  refine r_iload (pc := 30) (i := 4) (tJ0_init_db425.at 17 rfl) rfl ?_
  refine r_callS (M' := mJ7_copyOfRange_39247) (pc := 32) (tJ0_init_db425.at 18 rfl) ml_J0_54 rfl mw_J7_copyOfRange_39247 ⟨by decide, by decide⟩ (c_copyR ((hp_ne _ _ q2).trans hv) hc hc4 ft) rfl rfl (Nat.le_of_ble_eq_true rfl) (Nat.le_of_ble_eq_true rfl) (Nat.le_of_ble_eq_true rfl) ?_
  rintro _ _ _ ⟨rfl, rfl, g, rfl, hg⟩
  refine r_putF (pc := 35) (tJ0_init_db425.at 19 rfl) pff_J0_9 rfl ((hp_ne _ _ (by omega)).trans (hp_eq _ _ _)) (Nat.le_of_ble_eq_true rfl) rfl rfl ?_
  refine r_goto (pc := 38) 97 (tJ0_init_db425.at 20 rfl) (by decide) ?_
  refine r_vret (pc := 97) (tJ0_init_db425.at 50 rfl) rfl (Nat.le_of_ble_eq_true rfl) (Nat.le_of_ble_eq_true rfl) ?_
  refine ⟨rfl, rfl, ⟨g, hp_eq _ _ _, (hp_ne _ _ (by omega)).trans (hp_eq _ _ _), fun j hj => (hg j hj).trans (hf j hj)⟩, fun a h1 h2 => ?_⟩
  rw [hp_ne _ _ h2, hp_ne _ _ (by omega), hp_ne _ _ h2]
theorem c_strI2 {v : Ev} {h : Hp} {top lo b q : Nat} {L : List Nat} (hq : h q = some (ob 11 [.null, .int 0, .int 0, .int 0])) (sb : isSBn v h lo b L) : Cal v mJ0_init_81219 5 1 400 [.ref q, .ref b] h top (pStr v h top q L) noX := by
  refine Cal.ofJ (by decide +kernel) rfl (Nat.le_of_ble_eq_true rfl) fun hz0 => ?_
  refine r_ls [some (.ref q), some (.ref b)] rfl ?_
  refine r_aload_n (pc := 0) (i := 0) (tJ0_init_81219.at 0 rfl) rfl rfl ?_
  refine r_aload_n (pc := 1) (i := 1) (tJ0_init_81219.at 1 rfl) rfl rfl ?_
  refine r_null (pc := 2) (tJ0_init_81219.at 2 rfl) ?_
  refine r_callI (M' := mJ0_init_db425) (pc := 3) (tJ0_init_81219.at 3 rfl) (Or.inl ml_J0_489) rfl rfl mw_J0_init_db425 ⟨by decide, by decide⟩ (c_strI rfl hq sb) rfl rfl (Nat.le_of_ble_eq_true rfl) (Nat.le_of_ble_eq_true rfl) (Nat.le_of_ble_eq_true rfl) ?_
  rintro _ h2 top2 ⟨rfl, p2⟩
  refine r_vret (pc := 6) (tJ0_init_81219.at 4 rfl) rfl (Nat.le_of_ble_eq_true rfl) (Nat.le_of_ble_eq_true rfl) ?_
  exact ⟨rfl, p2⟩
/-- a made string: its object at q, its bytes behind it -/
def isT (v : Ev) (h : Hp) (q : Nat) (L : List Nat) : Prop := ∃ g, h q = some (ob 11 [.ref (q + 1), .int 0, .int 0, .int 0]) ∧ h (q + 1) = some (aB v L.length g) ∧ txF g L
theorem isT.lo {v : Ev} {h : Hp} {q lo : Nat} {L : List Nat} (s : isT v h q L) (hl : q + 2 ≤ lo) : loS v h q lo L := by
  obtain ⟨g, h1, h2, h3⟩ := s
  exact Or.inr ⟨q + 1, 0, 0, g, by omega, by omega, h1, h2, h3⟩
theorem isT.up {v : Ev} {h h' : Hp} {q : Nat} {L : List Nat} (s : isT v h q L) (h1 : h' q = h q) (h2 : h' (q + 1) = h (q + 1)) : isT v h' q L := by
  obtain ⟨g, k1, k2, k3⟩ := s
  exact ⟨g, h1.trans k1, h2.trans k2, k3⟩
def pTS (v : Ev) (h : Hp) (top : Nat) (L : List Nat) : Option Value → Hp → Nat → Prop := fun r h' top' => r = some (.ref top) ∧ top' = top + 2 ∧ isT v h' top L ∧ ∀ a, a < top → h' a = h a
theorem c_toStr {v : Ev} {h : Hp} {top lo b : Nat} {L : List Nat} (sb : isSBn v h lo b L) : Cal v mJ4_toString_0e30d 6 2 404 [.ref b] h top (pTS v h top L) noX := by
  obtain ⟨val, cap, f, l1, l2, hb, hv, hc, hc4, hf, ft⟩ := sb
  refine Cal.ofJ (by decide +kernel) rfl (Nat.le_of_ble_eq_true rfl) fun hz0 => ?_
  refine r_ls [some (.ref b)] rfl ?_
  refine r_lt hb (fun _ hbt => ?_)
  refine r_lt hv (fun _ hvt => ?_)
  refine r_new (pc := 0) (tJ4_toString_0e30d.at 0 rfl) nw_J4_18 (Nat.le_of_ble_eq_true rfl) (Nat.le_of_ble_eq_true rfl) (fun fr0 => ?_)
  refine r_dup (pc := 3) (tJ4_toString_0e30d.at 1 rfl) rfl ?_
  refine r_aload_n (pc := 4) (i := 0) (tJ4_toString_0e30d.at 2 rfl) rfl rfl ?_
  refine r_callI (M' := mJ0_init_81219) (pc := 5) (tJ4_toString_0e30d.at 3 rfl) (Or.inl ml_J4_137) rfl rfl mw_J0_init_81219 ⟨by decide, by decide⟩ (c_strI2 (lo := lo) (hp_eq _ _ _) ⟨val, cap, f, l1, l2, (hp_ne _ _ (by omega)).trans hb, (hp_ne _ _ (by omega)).trans hv, hc, hc4, hf, ft⟩) rfl rfl (Nat.le_of_ble_eq_true rfl) (Nat.le_of_ble_eq_true rfl) (Nat.le_of_ble_eq_true rfl) ?_
  rintro _ h2 top2 ⟨rfl, rfl, ⟨g, p1, p2, p3⟩, p4⟩
  refine r_aret (pc := 8) (tJ4_toString_0e30d.at 4 rfl) rfl (Or.inl ⟨_, rfl⟩) (Nat.le_of_ble_eq_true rfl) (Nat.le_of_ble_eq_true rfl) ?_
  exact ⟨rfl, rfl, ⟨g, p1, p2, p3⟩, fun a ha => (p4 a (by omega) (by omega)).trans (hp_ne _ _ (by omega))⟩

/-! a builder that lies from lo on -/
def isSB (v : Ev) (h : Hp) (lo b : Nat) (L : List Nat) : Prop := lo ≤ b ∧ isSBn v h lo b L
def pSB (v : Ev) (h : Hp) (top lo b : Nat) (L : List Nat) : Option Value → Hp → Nat → Prop := fun r h' top' => r = some (.ref b) ∧ top ≤ top' ∧ isSB v h' lo b L ∧ ∀ a, a < lo → h' a = h a
theorem isSB.cell {v : Ev} {h : Hp} {lo b : Nat} {L : List Nat} (sb : isSB v h lo b L) : ∃ val, h b = some (sbE val L.length) := sb.2.cell
theorem pSB.of {v : Ev} {h h' : Hp} {top top' lo b : Nat} {L : List Nat} {r : Option Value} (hb : lo ≤ b) (k : pSBn v h top lo b L r h' top') : pSB v h top lo b L r h' top' := ⟨k.1, k.2.1, ⟨hb, k.2.2.1⟩, fun a ha => k.2.2.2 a ha (by omega)⟩
theorem c_appS {v : Ev} {h : Hp} {top lo b q : Nat} {A B : List Nat} (sb : isSB v h lo b A) (hq : loS v h q lo B) (ok : okTx B) (hl : A.length + B.length ≤ 200) (hlo : lo ≤ top) : Cal v mJ4_append_15ec4 5 1 400 [.ref b, .ref q] h top (pSB v h top lo b (A ++ B)) noX :=
  (c_appSn sb.2 hq ok hl hlo).mono fun _ _ _ k => pSB.of sb.1 k
theorem c_appC {v : Ev} {h : Hp} {top lo b c : Nat} {A : List Nat} (sb : isSB v h lo b A) (hc8 : c < 128) (hl : A.length + 1 ≤ 200) (hlo : lo ≤ top) : Cal v mJ4_append_cf468 5 1 400 [.ref b, .int (nI c)] h top (pSB v h top lo b (A ++ [c])) noX :=
  (c_appCn sb.2 hc8 hl hlo).mono fun _ _ _ k => pSB.of sb.1 k
theorem c_appI {v : Ev} {h : Hp} {top lo b d : Nat} {A : List Nat} (sb : isSB v h lo b A) (hd : d < 10) (hl : A.length + 1 ≤ 200) (hlo : lo ≤ top) : Cal v mJ4_append_bf812 5 1 400 [.ref b, .int (nI d)] h top (pSB v h top lo b (A ++ [48 + d])) noX :=
  (c_appIn sb.2 hd hl hlo).mono fun _ _ _ k => pSB.of sb.1 k
theorem c_toStrL {v : Ev} {h : Hp} {top lo b : Nat} {L : List Nat} (sb : isSB v h lo b L) : Cal v mJ4_toString_0e30d 6 2 404 [.ref b] h top (pTS v h top L) noX := c_toStr sb.2

