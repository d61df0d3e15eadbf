/-! ===== strings: a text of the class file, or one in the heap ===== -/
theorem fl_value : Cond.fieldLink RJ0 9 "java/lang/String" "value" "[B" ∈ big := fl_J0_9
theorem fl_coder : Cond.fieldLink RJ0 15 "java/lang/String" "coder" "B" ∈ big := fl_J0_15
theorem fl_compact : Cond.fieldLink RJ0 38 "java/lang/String" "COMPACT_STRINGS" "Z" ∈ big := fl_J0_38
theorem fl_sioobe : Cond.fieldLink RJ0 1053 "jdk/internal/util/Preconditions" "SIOOBE_FORMATTER" "Ljava/util/function/BiFunction;" ∈ big := fl_J0_1053
section
variable {v : Ev} {M : Md} {R : Room} {K : List Frame → Array Value → State → State → Prop} {t0 cells slots : Nat} {h : Hp} {top pc : Nat} {ls : List (Option Value)} {st : List Value}
theorem r_gsC {idx : Nat} (d : decode M.2.1 pc = .ok (.getstatic idx, 3)) (hw : Cond.fieldLink M.1.cls idx "java/lang/String" "COMPACT_STRINGS" "Z" ∈ big) (kk : J v M R K t0 cells slots h top (pc + 3) ls (.int 1 :: st)) : J v M R K t0 cells slots h top pc ls st := by
  intro p l e s m args below meth c F H locs A hz hH hS hl
  exact va_gets F.1 F.2.1 F.old.2.2.2.2.1 hS F.2.2.2.1 (F.ht _ hw) (fun _ q => q) d (kk p l e s m args below meth c F H locs A hz hH hS hl)
theorem r_gsF {idx : Nat} (d : decode M.2.1 pc = .ok (.getstatic idx, 3)) (hw : Cond.fieldLink M.1.cls idx "jdk/internal/util/Preconditions" "SIOOBE_FORMATTER" "Ljava/util/function/BiFunction;" ∈ big) (kk : ∀ w, w = .null ∨ (∃ t, w = .ref t) → J v M R K t0 cells slots h top (pc + 3) ls (w :: st)) : J v M R K t0 cells slots h top pc ls st := by
  intro p l e s m args below meth c F H locs A hz hH hS hl
  rcases F.old.2.2.2.2.2.1 with q1 | ⟨t, q1⟩
  · exact va_gets F.1 F.2.1 q1 hS F.2.2.2.1 (F.ht _ hw) (fun _ q => q) d (kk _ (Or.inl rfl) p l e s m args below meth c F H locs A hz hH hS hl)
  · exact va_gets F.1 F.2.1 q1 hS F.2.2.2.1 (F.ht _ hw) (fun _ q => q) d (kk _ (Or.inr ⟨t, rfl⟩) p l e s m args below meth c F H locs A hz hH hS hl)
theorem r_strC {idx i : Nat} (d : decode M.2.1 pc = .ok (.getfield idx, 3)) (hw : Cond.fieldLink M.1.cls idx "java/lang/String" "coder" "B" ∈ big) (hi : stRead i = true) (kk : J v M R K t0 cells slots h top (pc + 3) ls (.int 0 :: st)) : J v M R K t0 cells slots h top pc ls (.ref (oA v (i + 1)) :: st) := by
  intro p l e s m args below meth c F H locs A hz hH hS hl
  exact vk_getf F.1 F.2.1 (F.old.2.2.2.2.2.2.1 i hi).2.1 hS F.2.2.2.1 (F.ht _ hw) (fun _ q => q) d (kk p l e s m args below meth c F H locs A hz hH hS hl)
theorem r_strV {idx i : Nat} (d : decode M.2.1 pc = .ok (.getfield idx, 3)) (hw : Cond.fieldLink M.1.cls idx "java/lang/String" "value" "[B" ∈ big) (hi : stRead i = true) (kk : J v M R K t0 cells slots h top (pc + 3) ls (.ref (oA v (i + 101)) :: st)) : J v M R K t0 cells slots h top pc ls (.ref (oA v (i + 1)) :: st) := by
  intro p l e s m args below meth c F H locs A hz hH hS hl
  exact vk_getf F.1 F.2.1 (F.old.2.2.2.2.2.2.1 i hi).2.2.1 hS F.2.2.2.1 (F.ht _ hw) (fun _ q => q) d (kk p l e s m args below meth c F H locs A hz hH hS hl)
theorem r_baldT {i j : Nat} (d : decode M.2.1 pc = .ok (.baload, 1)) (hi : stRead i = true) (hj : j < (stText i).length) (hl2 : (stText i).length ≤ 1000) (kk : J v M R K t0 cells slots h top (pc + 1) ls (.int (nI ((stText i).getD j 0)) :: st)) : J v M R K t0 cells slots h top pc ls (.int (nI j) :: .ref (oA v (i + 101)) :: st) := by
  intro p l e s m args below meth c F H locs A hz hH hS hl
  obtain ⟨h1, h2⟩ := in_nI (x := nI j) rfl hj (by omega)
  exact va_tb F.1 F.2.1 (F.old.2.2.2.2.2.2.1 i hi).2.2.2 hS h1 (by rw [h2]) d (kk p l e s m args below meth c F H locs A hz hH hS hl)
theorem r_alenT {i : Nat} (d : decode M.2.1 pc = .ok (.arraylength, 1)) (hi : stRead i = true) (kk : J v M R K t0 cells slots h top (pc + 1) ls (.int (nI (stText i).length) :: st)) : J v M R K t0 cells slots h top pc ls (.ref (oA v (i + 101)) :: st) := by
  intro p l e s m args below meth c F H locs A hz hH hS hl
  exact va_tlen F.1 F.2.1 (F.old.2.2.2.2.2.2.1 i hi).2.2.2 hS rfl d (kk p l e s m args below meth c F H locs A hz hH hS hl)
theorem r_ldcS (i : Nat) {idx : Nat} {tx : String} (d : decode M.2.1 pc = .ok (.ldc idx, 2)) (hi : stTab[i]? = some (M.1.cls, idx, tx)) (kk : J v M R K t0 cells slots h top (pc + 2) ls (.ref (oA v (i + 1)) :: st)) : J v M R K t0 cells slots h top pc ls st := by
  intro p l e s m args below meth c F H locs A hz hH hS hl
  exact va_ldcS F.1 F.2.1 F.2.2.2.1 (F.bs.2.1.2.1 i _ hi) d (kk p l e s m args below meth c F H locs A hz hH hS hl)
/-- a call on one of the texts -/
theorem r_callT {M' : Md} {idx n d' mc' ms' i : Nat} {As rest : List Value} {Qr : Option Value → Hp → Nat → Prop} (d : decode M.2.1 pc = .ok (.invokevirtual idx, 3)) (hl : Cond.methodLink M.1.cls idx M'.1 ∈ big) (hh : M'.2.2.2.2 = []) (mw : MwV M' n) (hR : Fits R M' d')
    (hi : stRead i = true) (hr1 : M'.1.cls = "java/lang/String") (hC : Cal v M' d' mc' ms' (.ref (oA v (i + 1)) :: As) h top Qr noX) (hst : st = As.reverse ++ .ref (oA v (i + 1)) :: rest) (hn : As.length = n) (hW : (rest.map fun w => w.category).sum ≤ 8) (hc : cells + mc' ≤ R.cells) (hs : slots + ms' ≤ R.slots)
    (k : ∀ (rv : Option Value) (h' : Hp) (top' : Nat), Qr rv h' top' → J v M R K t0 (cells + mc') (slots + ms') h' top' (pc + 3) ls (rv.toList ++ rest)) : J v M R K t0 cells slots h top pc ls st := by
  intro p l e s m args below meth c F H locs A hz hH hS hl2
  obtain ⟨w0, w5, w6⟩ := mw
  subst hst
  have hrecv : ∃ cellB : Cell, H[oA v (i + 1)]? = some cellB ∧ cellB.vm.isStatics = false ∧ s.vm.findClass M'.1.cls = some cellB.cls := by
    obtain ⟨cell, h1, h2, h3, -⟩ := (F.old.2.2.2.2.2.2.1 i hi).1.kept hS.2.1
    rw [hr1]
    exact ⟨cell, h1, h2, h3⟩
  refine J_after (vx_runV (Ts := big) (own := M.1.cls) (C := M'.1.cls) ⟨F.1, F.2.1, F.2.2.1, F.2.2.2.1, F.ht⟩ (hC l F.2.2.2.2.2.2.2.1) ⟨J_callB F hh w0 hl hR, F.ht _ w5, F.ht _ w6⟩ ⟨Rp.blind, hrecv, fun U hU hW1 => ⟨rfl, J_pre F hz hH hS hU hW1⟩⟩ rfl hn hl2.1 rfl (by show 2 * 0 + _ ≤ 8; omega) d ⟨hc, hs⟩) hS ?_ ?_
  · intro rv h' top' H' locs' hq hz' hH' hS'
    exact k rv h' top' hq p l e s m args below meth c F H' locs' A hz' hH' hS' hl2
  · intro E ce q h' top' H' locs' hq
    exact hq.elim
end
/-- the bytes of a text -/
def txF (f : Nat → Int32) (L : List Nat) : Prop := ∀ j, j < L.length → f j = nI (L.getD j 0)
def isB (v : Ev) (h : Hp) (w : Nat) (L : List Nat) : Prop := (∃ i, stRead i = true ∧ w = oA v (i + 101) ∧ L = stText i) ∨ ∃ f, h w = some (aB v L.length f) ∧ txF f L
def isS (v : Ev) (h : Hp) (q : Nat) (L : List Nat) : Prop := (∃ i, stRead i = true ∧ q = oA v (i + 1) ∧ L = stText i) ∨ ∃ w a b f, h q = some (ob 11 [.ref w, .int 0, .int a, .int b]) ∧ h w = some (aB v L.length f) ∧ txF f L
theorem isS.old {v : Ev} {h : Hp} {i : Nat} (hi : stRead i = true) : isS v h (oA v (i + 1)) (stText i) := Or.inl ⟨i, hi, rfl, rfl⟩
def okTx (L : List Nat) : Prop := L.length ≤ 1000 ∧ ∀ j, j < L.length → L.getD j 0 < 128
section
variable {v : Ev} {M : Md} {R : Room} {K : List Frame → Array Value → State → State → Prop} {t0 cells slots : Nat} {h : Hp} {top pc : Nat} {ls : List (Option Value)} {st : List Value}
theorem r_sC {q idx : Nat} {L : List Nat} (d : decode M.2.1 pc = .ok (.getfield idx, 3)) (hw : Cond.fieldLink M.1.cls idx "java/lang/String" "coder" "B" ∈ big) (g : Gf M.1.cls idx 11 1) (hq : isS v h q L) (kk : J v M R K t0 cells slots h top (pc + 3) ls (.int 0 :: st)) : J v M R K t0 cells slots h top pc ls (.ref q :: st) := by
  rcases hq with ⟨i, hi, rfl, rfl⟩ | ⟨w, a, b, f, h1, h2, h3⟩
  · exact r_strC d hw hi kk
  · exact r_get d g h1 rfl kk
theorem r_sV {q idx : Nat} {L : List Nat} (d : decode M.2.1 pc = .ok (.getfield idx, 3)) (hw : Cond.fieldLink M.1.cls idx "java/lang/String" "value" "[B" ∈ big) (g : Gf M.1.cls idx 11 0) (hq : isS v h q L) (kk : ∀ w, isB v h w L → J v M R K t0 cells slots h top (pc + 3) ls (.ref w :: st)) : J v M R K t0 cells slots h top pc ls (.ref q :: st) := by
  rcases hq with ⟨i, hi, rfl, rfl⟩ | ⟨w, a, b, f, h1, h2, h3⟩
  · exact r_strV d hw hi (kk _ (Or.inl ⟨i, hi, rfl, rfl⟩))
  · exact r_get d g h1 rfl (kk w (Or.inr ⟨f, h2, h3⟩))
theorem r_sAlen {w : Nat} {L : List Nat} (d : decode M.2.1 pc = .ok (.arraylength, 1)) (hw : isB v h w L) (kk : J v M R K t0 cells slots h top (pc + 1) ls (.int (nI L.length) :: st)) : J v M R K t0 cells slots h top pc ls (.ref w :: st) := by
  rcases hw with ⟨i, hi, rfl, rfl⟩ | ⟨f, h2, h3⟩
  · exact r_alenT d hi kk
  · exact r_alenB d h2 kk
theorem r_sBald {w j : Nat} {L : List Nat} (d : decode M.2.1 pc = .ok (.baload, 1)) (hw : isB v h w L) (hj : j < L.length) (hl : L.length ≤ 1000) (kk : J v M R K t0 cells slots h top (pc + 1) ls (.int (nI (L.getD j 0)) :: st)) : J v M R K t0 cells slots h top pc ls (.int (nI j) :: .ref w :: st) := by
  rcases hw with ⟨i, hi, rfl, rfl⟩ | ⟨f, h2, h3⟩
  · exact r_baldT d hi hj hl kk
  · exact r_bald d h2 j rfl hj (by omega) (by rw [h3 j hj]; exact kk)
theorem r_sCall {M' : Md} {idx n d' mc' ms' q : Nat} {L : List Nat} {As rest : List Value} {Qr : Option Value → Hp → Nat → Prop} (d : decode M.2.1 pc = .ok (.invokevirtual idx, 3)) (hl : Cond.methodLink M.1.cls idx M'.1 ∈ big) (hh : M'.2.2.2.2 = []) (mw : MwV M' n) (hR : Fits R M' d')
    (hq : isS v h q L) (hr1 : M'.1.cls = "java/lang/String") (hC : Cal v M' d' mc' ms' (.ref q :: As) h top Qr noX) (hst : st = As.reverse ++ .ref q :: rest) (hn : As.length = n) (hW : (rest.map fun w => w.category).sum ≤ 8) (hc : cells + mc' ≤ R.cells) (hs : slots + ms' ≤ R.slots)
    (k : ∀ (rv : Option Value) (h' : Hp) (top' : Nat), Qr rv h' top' → J v M R K t0 (cells + mc') (slots + ms') h' top' (pc + 3) ls (rv.toList ++ rest)) : J v M R K t0 cells slots h top pc ls st := by
  rcases hq with ⟨i, hi, rfl, rfl⟩ | ⟨w, a, b, f, h1, h2, h3⟩
  · exact r_callT d hl hh mw hR hi hr1 hC hst hn hW hc hs k
  · exact r_callV d hl hh mw hR h1 rfl hr1.symm hC hst hn hW hc hs k
end
/-- the texts that are read are short -/
theorem stText_b : ∀ i, i < 22 → stRead i = true → (stText i).length ≤ 40 ∧ ∀ j, j < (stText i).length → 32 ≤ (stText i).getD j 0 ∧ (stText i).getD j 0 ≤ 122 := by decide +kernel
theorem stRead_lt {i : Nat} (h : stRead i = true) : i < 22 := by
  rcases Nat.lt_or_ge i 22 with q | q
  · exact q
  · exfalso
    unfold stRead at h
    rw [List.getElem?_eq_none (by exact q)] at h
    cases h
theorem okTx.st {i : Nat} (hi : stRead i = true) : okTx (stText i) := by
  obtain ⟨b1, b2⟩ := stText_b i (stRead_lt hi) hi
  exact ⟨by omega, fun j hj => by have := b2 j hj; omega⟩
theorem ch255 : ∀ x, x < 128 → ((nI x &&& nI 255).toUInt32 % 65536).toInt32 = nI x := by decide +kernel
theorem chNar : ∀ x, x < 128 → ((nI x).toUInt32 % 65536).toInt32 = nI x := by decide +kernel
theorem c_sCoder {v : Ev} {h : Hp} {top q : Nat} {L : List Nat} (hq : isS v h q L) : Cal v mJ0_coder_7d493 1 0 0 [.ref q] h top (pR (.int 0) h top) noX := by
  refine Cal.ofJ (by decide +kernel) rfl (Nat.le_of_ble_eq_true rfl) fun hz0 => ?_
  refine r_ls [some (.ref q)] rfl ?_
  refine r_gsC (pc := 0) (tJ0_coder_7d493.at 0 rfl) fl_compact ?_
  refine r_if_eq (pc := 3) 13 (tJ0_coder_7d493.at 1 rfl) (by decide) (fun z => absurd z (by decide)) (fun _ => ?_)
  refine r_aload_n (pc := 6) (i := 0) (tJ0_coder_7d493.at 2 rfl) rfl rfl ?_
  refine r_sC (pc := 7) (tJ0_coder_7d493.at 3 rfl) fl_coder gf_J0_15 hq ?_
  refine r_goto (pc := 10) 14 (tJ0_coder_7d493.at 4 rfl) (by decide) ?_
  refine r_zret (pc := 14) (tJ0_coder_7d493.at 6 rfl) rfl rfl (Nat.le_of_ble_eq_true rfl) (Nat.le_of_ble_eq_true rfl) ?_
  exact ⟨rfl, rfl, rfl⟩
theorem c_sLat {v : Ev} {h : Hp} {top q : Nat} {L : List Nat} (hq : isS v h q L) : Cal v mJ0_isLatin1_aae02 1 0 0 [.ref q] h top (pR (.int 1) h top) noX := by
  refine Cal.ofJ (by decide +kernel) rfl (Nat.le_of_ble_eq_true rfl) fun hz0 => ?_
  refine r_ls [some (.ref q)] rfl ?_
  refine r_gsC (pc := 0) (tJ0_isLatin1_aae02.at 0 rfl) fl_compact ?_
  refine r_if_eq (pc := 3) 17 (tJ0_isLatin1_aae02.at 1 rfl) (by decide) (fun z => absurd z (by decide)) (fun _ => ?_)
  refine r_aload_n (pc := 6) (i := 0) (tJ0_isLatin1_aae02.at 2 rfl) rfl rfl ?_
  refine r_sC (pc := 7) (tJ0_isLatin1_aae02.at 3 rfl) fl_coder gf_J0_15 hq ?_
  refine r_if_ne (pc := 10) 17 (tJ0_isLatin1_aae02.at 4 rfl) (by decide) (fun z => absurd rfl z) (fun _ => ?_)
  refine r_iconst (pc := 13) (w := nI 1) (tJ0_isLatin1_aae02.at 5 rfl) (by decide) ?_
  refine r_goto (pc := 14) 18 (tJ0_isLatin1_aae02.at 6 rfl) (by decide) ?_
  refine r_zret (pc := 18) (tJ0_isLatin1_aae02.at 8 rfl) rfl rfl (Nat.le_of_ble_eq_true rfl) (Nat.le_of_ble_eq_true rfl) ?_
  exact ⟨rfl, rfl, rfl⟩
theorem shr0 (x : Int32) : x >>> ((0 : Int32) &&& 31) = x := by
  rw [show ((0 : Int32) &&& 31) = 0 from by decide]
  exact Int32.shiftRight_zero
theorem shl0 (x : Int32) : x <<< ((0 : Int32) &&& 31) = x := by
  rw [show ((0 : Int32) &&& 31) = 0 from by decide]
  exact Int32.shiftLeft_zero
theorem c_sLen {v : Ev} {h : Hp} {top q : Nat} {L : List Nat} (hq : isS v h q L) : Cal v mJ0_length_8abf5 2 0 0 [.ref q] h top (pR (.int (nI L.length)) h top) noX := by
  refine Cal.ofJ (by decide +kernel) rfl (Nat.le_of_ble_eq_true rfl) fun hz0 => ?_
  refine r_ls [some (.ref q)] rfl ?_
  refine r_aload_n (pc := 0) (i := 0) (tJ0_length_8abf5.at 0 rfl) rfl rfl ?_
  refine r_sV (pc := 1) (tJ0_length_8abf5.at 1 rfl) fl_value gf_J0_9 hq (fun w hw => ?_)
  refine r_sAlen (pc := 4) (tJ0_length_8abf5.at 2 rfl) hw ?_
  refine r_aload_n (pc := 5) (i := 0) (tJ0_length_8abf5.at 3 rfl) rfl rfl ?_
  refine r_sCall (M' := mJ0_coder_7d493) (pc := 6) (tJ0_length_8abf5.at 4 rfl) ml_J0_335 rfl mw_J0_coder_7d493 ⟨by decide, by decide⟩ hq rfl (c_sCoder hq) rfl rfl (Nat.le_of_ble_eq_true rfl) (Nat.le_of_ble_eq_true rfl) (Nat.le_of_ble_eq_true rfl) ?_
  rintro _ _ _ ⟨rfl, rfl, rfl⟩
  refine r_ishr (pc := 9) (tJ0_length_8abf5.at 5 rfl) ?_
  rw [shr0]
  refine r_iret (pc := 10) (tJ0_length_8abf5.at 6 rfl) rfl (Nat.le_of_ble_eq_true rfl) (Nat.le_of_ble_eq_true rfl) ?_
  exact ⟨rfl, rfl, rfl⟩
theorem c_prec {v : Ev} {h : Hp} {top a b : Nat} {w : Value} (hw : w = .null ∨ ∃ t, w = .ref t) (hab : a < b) (hb : b ≤ 1000) : Cal v mJ3_checkIndex_8e157 1 0 0 [.int (nI a), .int (nI b), w] h top (pR (.int (nI a)) h top) noX := by
  rcases hw with rfl | ⟨t, rfl⟩
  · refine Cal.ofJ (by decide +kernel) rfl (Nat.le_of_ble_eq_true rfl) fun hz0 => ?_
    refine r_ls [some (.int (nI a)), some (.int (nI b)), some (.null)] rfl ?_
    refine r_iload_n (pc := 0) (i := 0) (tJ3_checkIndex_8e157.at 0 rfl) rfl rfl ?_
    refine r_if_ltN (pc := 1) 9 (tJ3_checkIndex_8e157.at 1 rfl) (by decide) (by omega) ?_
    refine r_iload_n (pc := 4) (i := 0) (tJ3_checkIndex_8e157.at 2 rfl) rfl rfl ?_
    refine r_iload_n (pc := 5) (i := 1) (tJ3_checkIndex_8e157.at 3 rfl) rfl rfl ?_
    refine r_icmp_ltN (pc := 6) 16 (tJ3_checkIndex_8e157.at 4 rfl) (by decide) (by omega) (by omega) (fun _ => ?_) (fun c => by omega)
    refine r_iload_n (pc := 16) (i := 0) (tJ3_checkIndex_8e157.at 10 rfl) rfl rfl ?_
    refine r_iret (pc := 17) (tJ3_checkIndex_8e157.at 11 rfl) rfl (Nat.le_of_ble_eq_true rfl) (Nat.le_of_ble_eq_true rfl) ?_
    exact ⟨rfl, rfl, rfl⟩
  · refine Cal.ofJ (by decide +kernel) rfl (Nat.le_of_ble_eq_true rfl) fun hz0 => ?_
    refine r_ls [some (.int (nI a)), some (.int (nI b)), some (.ref t)] rfl ?_
    refine r_iload_n (pc := 0) (i := 0) (tJ3_checkIndex_8e157.at 0 rfl) rfl rfl ?_
    refine r_if_ltN (pc := 1) 9 (tJ3_checkIndex_8e157.at 1 rfl) (by decide) (by omega) ?_
    refine r_iload_n (pc := 4) (i := 0) (tJ3_checkIndex_8e157.at 2 rfl) rfl rfl ?_
    refine r_iload_n (pc := 5) (i := 1) (tJ3_checkIndex_8e157.at 3 rfl) rfl rfl ?_
    refine r_icmp_ltN (pc := 6) 16 (tJ3_checkIndex_8e157.at 4 rfl) (by decide) (by omega) (by omega) (fun _ => ?_) (fun c => by omega)
    refine r_iload_n (pc := 16) (i := 0) (tJ3_checkIndex_8e157.at 10 rfl) rfl rfl ?_
    refine r_iret (pc := 17) (tJ3_checkIndex_8e157.at 11 rfl) rfl (Nat.le_of_ble_eq_true rfl) (Nat.le_of_ble_eq_true rfl) ?_
    exact ⟨rfl, rfl, rfl⟩
theorem c_chkI {v : Ev} {h : Hp} {top a b : Nat} (hab : a < b) (hb : b ≤ 1000) : Cal v mJ0_checkIndex_df160 2 0 0 [.int (nI a), .int (nI b)] h top (pV h top) noX := by
  refine Cal.ofJ (by decide +kernel) rfl (Nat.le_of_ble_eq_true rfl) fun hz0 => ?_
  refine r_ls [some (.int (nI a)), some (.int (nI b))] rfl ?_
  refine r_iload_n (pc := 0) (i := 0) (tJ0_checkIndex_df160.at 0 rfl) rfl rfl ?_
  refine r_iload_n (pc := 1) (i := 1) (tJ0_checkIndex_df160.at 1 rfl) rfl rfl ?_
  refine r_gsF (pc := 2) (tJ0_checkIndex_df160.at 2 rfl) fl_sioobe (fun w hw => ?_)
  refine r_callS (M' := mJ3_checkIndex_8e157) (pc := 5) (tJ0_checkIndex_df160.at 3 rfl) ml_J0_1059 rfl mw_J3_checkIndex_8e157 ⟨by decide, by decide⟩ (c_prec hw hab hb) rfl rfl (Nat.le_of_ble_eq_true rfl) (Nat.le_of_ble_eq_true rfl) (Nat.le_of_ble_eq_true rfl) ?_
  rintro _ _ _ ⟨rfl, rfl, rfl⟩
  refine r_pop (pc := 8) (tJ0_checkIndex_df160.at 4 rfl) rfl ?_
  refine r_vret (pc := 9) (tJ0_checkIndex_df160.at 5 rfl) rfl (Nat.le_of_ble_eq_true rfl) (Nat.le_of_ble_eq_true rfl) ?_
  exact ⟨rfl, rfl, rfl⟩
theorem c_sLatCh {v : Ev} {h : Hp} {top w j : Nat} {L : List Nat} (hw : isB v h w L) (ok : okTx L) (hj : j < L.length) : Cal v mJ1_charAt_3b067 3 0 0 [.ref w, .int (nI j)] h top (pR (.int (nI (L.getD j 0))) h top) noX := by
  obtain ⟨b1, b2⟩ := ok
  have b3 := b2 j hj
  refine Cal.ofJ (by decide +kernel) rfl (Nat.le_of_ble_eq_true rfl) fun hz0 => ?_
  refine r_ls [some (.ref w), some (.int (nI j))] rfl ?_
  refine r_iload_n (pc := 0) (i := 1) (tJ1_charAt_3b067.at 0 rfl) rfl rfl ?_
  refine r_aload_n (pc := 1) (i := 0) (tJ1_charAt_3b067.at 1 rfl) rfl rfl ?_
  refine r_sAlen (pc := 2) (tJ1_charAt_3b067.at 2 rfl) hw ?_
  refine r_callS (M' := mJ0_checkIndex_df160) (pc := 3) (tJ1_charAt_3b067.at 3 rfl) ml_J1_9 rfl mw_J0_checkIndex_df160 ⟨by decide, by decide⟩ (c_chkI hj (by omega)) rfl rfl (Nat.le_of_ble_eq_true rfl) (Nat.le_of_ble_eq_true rfl) (Nat.le_of_ble_eq_true rfl) ?_
  rintro _ _ _ ⟨rfl, rfl, rfl⟩
  refine r_aload_n (pc := 6) (i := 0) (tJ1_charAt_3b067.at 4 rfl) rfl rfl ?_
  refine r_iload_n (pc := 7) (i := 1) (tJ1_charAt_3b067.at 5 rfl) rfl rfl ?_
  refine r_sBald (pc := 8) (tJ1_charAt_3b067.at 6 rfl) hw hj (by omega) ?_
  refine r_sipush (pc := 9) (w := nI 255) (tJ1_charAt_3b067.at 7 rfl) (by decide) ?_
  refine r_iand (pc := 12) (tJ1_charAt_3b067.at 8 rfl) ?_
  refine r_i2c (pc := 13) (tJ1_charAt_3b067.at 9 rfl) ?_
  refine r_eq rfl (st2 := [.int (nI (L.getD j 0))]) (congrArg (fun z => [Value.int z]) (ch255 _ (show L.getD j 0 < 128 by omega))) ?_
  refine r_zret (pc := 14) (tJ1_charAt_3b067.at 10 rfl) rfl ?_ (Nat.le_of_ble_eq_true rfl) (Nat.le_of_ble_eq_true rfl) ?_
  · exact congrArg Value.int (chNar _ (show L.getD j 0 < 128 by omega))
  · exact ⟨rfl, rfl, rfl⟩
theorem c_sCharAt {v : Ev} {h : Hp} {top q j : Nat} {L : List Nat} (hq : isS v h q L) (ok : okTx L) (hj : j < L.length) : Cal v mJ0_charAt_5068e 4 0 0 [.ref q, .int (nI j)] h top (pR (.int (nI (L.getD j 0))) h top) noX := by
  have b3 := ok.2 j hj
  refine Cal.ofJ (by decide +kernel) rfl (Nat.le_of_ble_eq_true rfl) fun hz0 => ?_
  refine r_ls [some (.ref q), some (.int (nI j))] rfl ?_
  refine r_aload_n (pc := 0) (i := 0) (tJ0_charAt_5068e.at 0 rfl) rfl rfl ?_
  refine r_sCall (M' := mJ0_isLatin1_aae02) (pc := 1) (tJ0_charAt_5068e.at 1 rfl) ml_J0_492 rfl mw_J0_isLatin1_aae02 ⟨by decide, by decide⟩ hq rfl (c_sLat hq) rfl rfl (Nat.le_of_ble_eq_true rfl) (Nat.le_of_ble_eq_true rfl) (Nat.le_of_ble_eq_true rfl) ?_
  rintro _ _ _ ⟨rfl, rfl, rfl⟩
  refine r_if_eq (pc := 4) 16 (tJ0_charAt_5068e.at 2 rfl) (by decide) (fun z => absurd z (by decide)) (fun _ => ?_)
  refine r_aload_n (pc := 7) (i := 0) (tJ0_charAt_5068e.at 3 rfl) rfl rfl ?_
  refine r_sV (pc := 8) (tJ0_charAt_5068e.at 4 rfl) fl_value gf_J0_9 hq (fun w hw => ?_)
  refine r_iload_n (pc := 11) (i := 1) (tJ0_charAt_5068e.at 5 rfl) rfl rfl ?_
  refine r_callS (M' := mJ1_charAt_3b067) (pc := 12) (tJ0_charAt_5068e.at 6 rfl) ml_J0_495 rfl mw_J1_charAt_3b067 ⟨by decide, by decide⟩ (c_sLatCh hw ok hj) rfl rfl (Nat.le_of_ble_eq_true rfl) (Nat.le_of_ble_eq_true rfl) (Nat.le_of_ble_eq_true rfl) ?_
  rintro _ _ _ ⟨rfl, rfl, rfl⟩
  refine r_zret (pc := 15) (tJ0_charAt_5068e.at 7 rfl) rfl ?_ (Nat.le_of_ble_eq_true rfl) (Nat.le_of_ble_eq_true rfl) ?_
  · exact congrArg Value.int (chNar _ (show L.getD j 0 < 128 by omega))
  · exact ⟨rfl, rfl, rfl⟩
theorem c_strLen {v : Ev} {h : Hp} {top i : Nat} (hi : stRead i = true) : Cal v mJ0_length_8abf5 2 0 0 [.ref (oA v (i + 1))] h top (pR (.int (nI (stText i).length)) h top) noX := c_sLen (isS.old hi)
theorem c_charAt {v : Ev} {h : Hp} {top i j : Nat} (hi : stRead i = true) (hj : j < (stText i).length) : Cal v mJ0_charAt_5068e 4 0 0 [.ref (oA v (i + 1)), .int (nI j)] h top (pR (.int (nI ((stText i).getD j 0))) h top) noX := c_sCharAt (isS.old hi) (okTx.st hi) hj

