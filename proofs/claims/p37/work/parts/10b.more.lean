/-! ===== J rows: clones, rows of rows, casts, calls above, texts (written by wip/p37/gen10b.py) ===== -/
section J10
variable {v : Ev} {M : Md} {R : Room} {K : List Frame → Array Value → State → State → Prop} {t0 cells slots : Nat} {h : Hp} {top pc : Nat} {ls : List (Option Value)} {st : List Value}
theorem r_lshr {x : Int64} {y : Int32} (d : decode M.2.1 pc = .ok (.lshr, 1)) (k : J v M R K t0 cells slots h top (pc + 1) ls (.long (x >>> (y.toInt64 &&& 63)) :: st)) : J v M R K t0 cells slots h top pc ls (.int y :: .long x :: st) := by
  intro p l e s m args below meth c F H locs A hz hH hS hl
  exact lv_lshr F.1 F.2.1 d rfl (k p l e s m args below meth c F H locs A hz hH hS hl)
theorem r_ifnonnull {x : Nat} {off : Int} (tgt : Nat) (d : decode M.2.1 pc = .ok (.ifnonnull off, 3)) (ht : (pc : Int) + off = (tgt : Int)) (k : J v M R K t0 cells slots h top tgt ls st) : J v M R K t0 cells slots h top pc ls (.ref x :: st) := by
  intro p l e s m args below meth c F H locs A hz hH hS hl
  exact lv_ifnonnull F.1 F.2.1 d ht (k p l e s m args below meth c F H locs A hz hH hS hl)
theorem r_null (d : decode M.2.1 pc = .ok (.aconst_null, 1)) (k : J v M R K t0 cells slots h top (pc + 1) ls (.null :: st)) : J v M R K t0 cells slots h top pc ls st := by
  intro p l e s m args below meth c F H locs A hz hH hS hl
  exact lv_null F.1 F.2.1 d (k p l e s m args below meth c F H locs A hz hH hS hl)
theorem r_ldcF {idx : Nat} {x : UInt32} (d : decode M.2.1 pc = .ok (.ldc idx, 2)) (hw : Cond.constantFloat M.1.cls idx x ∈ big) (k : J v M R K t0 cells slots h top (pc + 2) ls (.float x :: st)) : J v M R K t0 cells slots h top pc ls st := by
  intro p l e s m args below meth c F H locs A hz hH hS hl
  exact lv_ldcf F.1 F.2.1 F.2.2.2.1 (F.ht _ hw) d (k p l e s m args below meth c F H locs A hz hH hS hl)
theorem r_aaldQ {a n : Nat} {f : Nat → Option Nat} {x : Int32} (d : decode M.2.1 pc = .ok (.aaload, 1)) (hh : h a = some (aQ v n f)) (i : Nat) (hx : x = nI i) (hn : i < n) (hN : n ≤ 2147483647) (kk : J v M R K t0 cells slots h top (pc + 1) ls (va_rf (f i) :: st)) : J v M R K t0 cells slots h top pc ls (.int x :: .ref a :: st) := by
  intro p l e s m args below meth c F H locs A hz hH hS hl
  obtain ⟨h1, h2⟩ := in_nI hx hn hN
  have hlt : x.toNatClampNeg < n := by omega
  exact W.aald (v := va_rf (f i)) (ty := .array .int) F.1 F.2.1 (show H[a]? = some (arrV (cA v 6) n (fun j => va_rf (f j))) from (hH a _ hh).2) ((F.bs.1.2 6 _ rfl).1 n (fun j => va_rf (f j))) rfl (fun q => by cases q) (by show ¬ (x < 0 ∨ (arrV _ _ _).slots.size ≤ _); rw [arrV_size]; exact h1) (by show (arrV _ _ _).slots[_]? = _; rw [arrV_read _ _ hlt, h2]) rfl rfl d (kk p l e s m args below meth c F H locs A hz hH hS hl)
theorem r_cloneI {a idx n : Nat} {f : Nat → Int32} (d : decode M.2.1 pc = .ok (.invokevirtual idx, 3)) (hlk : Cond.methodLink M.1.cls idx ⟨"[I", "clone", "()Ljava/lang/Object;"⟩ ∈ big) (hh : h a = some (aI v n f)) (hf : 1 ≤ R.frames) (hl2 : (st.map fun w => w.category).sum + 14 ≤ R.locals) (hc : cells + 1 ≤ R.cells) (hs : slots + n ≤ R.slots)
    (kk : h top = none → J v M R K t0 (cells + 1) (slots + n) (hp h top (aI v n f)) (top + 1) (pc + 3) ls (.ref top :: st)) : J v M R K t0 cells slots h top pc ls (.ref a :: st) := by
  intro p l e s m args below meth c F H locs A hz hH hS hl
  subst hz
  have hfr : h H.size = none := by
    cases q : h H.size with
    | none => rfl
    | some e9 => exact absurd (hH.lt q) (Nat.lt_irrefl _)
  have h0 : z0 v ≤ H.size := Nat.le_trans F.z hS.1
  intro T hT X
  have hcell : T.heap[a]? = some (arrV (cA v 0) n (fun j => .int (f j))) := by rw [hT]; exact (hH a _ hh).2
  obtain ⟨c0, t0', f1, f2, f3⟩ := Cond.castable_spec (F.nest cl_I_cast rfl)
  have hnm : s.vm.findClass "[I" = some (cA v 0) := va_nm_int (F.bs.1.2 0 _ rfl).2
  cases hnm.symm.trans f1
  obtain ⟨-, kA, hkA, comp, hkind⟩ := State.isArrayOf_alike X.warmed.alike ((F.bs.1.2 0 _ rfl).1 n (fun j => .int (f j)))
  obtain ⟨-, kS, hkS, compS, hkindS⟩ := (F.bs.1.2 0 _ rfl).1 n (fun j => .int (f j))
  obtain ⟨vm', X', st'⟩ := X.cloneArray F.1 F.2.2.2.1 (F.ht _ hlk) (F.ht _ cl_I_same) (F.ht _ cl_nat) (F.ht _ cl_inst) (F.ht _ cl_I_sel) (a := a) (cell := arrV (cA v 0) n (fun j => .int (f j))) hcell (fun k hk => by cases hk) (fun hk => by cases hk) hnm f2 f3
    (fun i w hw => by
      have hk' : T.vm.classes[cA v 0]? = some kA := hkA
      have hw2 : fits .int w = true := by
        have hi : i < n := by
          have := (Array.getElem?_eq_some_iff.mp hw).1
          rwa [arrV_size] at this
        rw [arrV_read _ _ hi] at hw
        cases hw
        rfl
      have e1 : (arrV (cA v 0) n (fun j => Value.int (f j))).cls = cA v 0 := rfl
      rw [e1]
      simpa [State.fitsSlot, State.slotType?, hk', hkind] using hw2)
    (g := F0 m pc A (.ref a :: st)) rfl (by rw [F.2.2.1]; exact hl.1) rfl (by rw [F.2.1]; exact d) hf (by show 2 * 0 + _ + 14 ≤ _; omega) hc (by rw [arrV_size]; exact hs) (hloader := Vm.clonesLoader_of_array hkS hkindS)
  have hcellE : ({ cls := (arrV (cA v 0) n (fun j => Value.int (f j))).cls, slots := (arrV (cA v 0) n (fun j => Value.int (f j))).slots } : Cell) = arrV (cA v 0) n (fun j => .int (f j)) := rfl
  rw [hcellE, arrV_size] at X'
  generalize hH1 : H.push (arrV (cA v 0) n (fun j => .int (f j))) = H1
  have z1 : H1.size = H.size + 1 := by rw [← hH1, Array.size_push]
  have e1 : H1[H.size]? = some (arrV (cA v 0) n (fun j => .int (f j))) := by rw [← hH1, Array.getElem?_push_size]
  have o1 : ∀ q : Nat, q < H.size → H1[q]? = H[q]? := fun q hq => by rw [← hH1, Array.getElem?_push, if_neg (Nat.ne_of_lt hq)]
  obtain ⟨t, b1, b2⟩ := kk hfr p l e s m args below meth c F H1 locs A z1 (hH.new h0 e1 o1) ⟨Nat.le_trans hS.1 (by omega), fun x h1 h2 => (o1 x (Nat.lt_of_lt_of_le h1 hS.1)).trans (hS.2.1 x h1 h2), hS.2.2⟩ hl ((T.setVm vm').pushCell (arrV (cA v 0) n (fun j => .int (f j)))) (by rw [← hH1, ← hT]; rfl) X'
  refine ⟨t, st' t ?_, b2⟩
  rw [hcellE, hT]
  exact b1
theorem r_castI {a idx n : Nat} {f : Nat → Int32} (d : decode M.2.1 pc = .ok (.checkcast idx, 3)) (hlk : Cond.classLink M.1.cls idx "[I" ∈ big) (hh : h a = some (aI v n f)) (k : J v M R K t0 cells slots h top (pc + 3) ls (.ref a :: st)) : J v M R K t0 cells slots h top pc ls (.ref a :: st) := by
  intro p l e s m args below meth c F H locs A hz hH hS hl
  exact va_castA F.1 F.2.1 F.2.2.2.1 (F.ht _ hlk) (va_P1 (hH a _ hh).2) 0 rfl (va_nm_int (F.bs.1.2 0 _ rfl).2) d (k p l e s m args below meth c F H locs A hz hH hS hl)
theorem r_cloneB {a idx n : Nat} {f : Nat → Int32} (d : decode M.2.1 pc = .ok (.invokevirtual idx, 3)) (hlk : Cond.methodLink M.1.cls idx ⟨"[B", "clone", "()Ljava/lang/Object;"⟩ ∈ big) (hh : h a = some (aB v n f)) (hfit : ∀ i, i < n → fits .byte (.int (f i)) = true) (hf : 1 ≤ R.frames) (hl2 : (st.map fun w => w.category).sum + 14 ≤ R.locals) (hc : cells + 1 ≤ R.cells) (hs : slots + n ≤ R.slots)
    (kk : h top = none → J v M R K t0 (cells + 1) (slots + n) (hp h top (aB v n f)) (top + 1) (pc + 3) ls (.ref top :: st)) : J v M R K t0 cells slots h top pc ls (.ref a :: st) := by
  intro p l e s m args below meth c F H locs A hz hH hS hl
  subst hz
  have hfr : h H.size = none := by
    cases q : h H.size with
    | none => rfl
    | some e9 => exact absurd (hH.lt q) (Nat.lt_irrefl _)
  have h0 : z0 v ≤ H.size := Nat.le_trans F.z hS.1
  intro T hT X
  have hcell : T.heap[a]? = some (arrV (cA v 3) n (fun j => .int (f j))) := by rw [hT]; exact (hH a _ hh).2
  obtain ⟨c0, t0', f1, f2, f3⟩ := Cond.castable_spec (F.nest cl_B_cast rfl)
  have hnm : s.vm.findClass "[B" = some (cA v 3) := va_nm_byte (F.bs.1.2 3 _ rfl).2
  cases hnm.symm.trans f1
  obtain ⟨-, kA, hkA, comp, hkind⟩ := State.isArrayOf_alike X.warmed.alike ((F.bs.1.2 3 _ rfl).1 n (fun j => .int (f j)))
  obtain ⟨-, kS, hkS, compS, hkindS⟩ := (F.bs.1.2 3 _ rfl).1 n (fun j => .int (f j))
  obtain ⟨vm', X', st'⟩ := X.cloneArray F.1 F.2.2.2.1 (F.ht _ hlk) (F.ht _ cl_B_same) (F.ht _ cl_nat) (F.ht _ cl_inst) (F.ht _ cl_B_sel) (a := a) (cell := arrV (cA v 3) n (fun j => .int (f j))) hcell (fun k hk => by cases hk) (fun hk => by cases hk) hnm f2 f3
    (fun i w hw => by
      have hk' : T.vm.classes[cA v 3]? = some kA := hkA
      have hw2 : fits .byte w = true := by
        have hi : i < n := by
          have := (Array.getElem?_eq_some_iff.mp hw).1
          rwa [arrV_size] at this
        rw [arrV_read _ _ hi] at hw
        cases hw
        exact hfit i hi
      have e1 : (arrV (cA v 3) n (fun j => Value.int (f j))).cls = cA v 3 := rfl
      rw [e1]
      simpa [State.fitsSlot, State.slotType?, hk', hkind] using hw2)
    (g := F0 m pc A (.ref a :: st)) rfl (by rw [F.2.2.1]; exact hl.1) rfl (by rw [F.2.1]; exact d) hf (by show 2 * 0 + _ + 14 ≤ _; omega) hc (by rw [arrV_size]; exact hs) (hloader := Vm.clonesLoader_of_array hkS hkindS)
  have hcellE : ({ cls := (arrV (cA v 3) n (fun j => Value.int (f j))).cls, slots := (arrV (cA v 3) n (fun j => Value.int (f j))).slots } : Cell) = arrV (cA v 3) n (fun j => .int (f j)) := rfl
  rw [hcellE, arrV_size] at X'
  generalize hH1 : H.push (arrV (cA v 3) n (fun j => .int (f j))) = H1
  have z1 : H1.size = H.size + 1 := by rw [← hH1, Array.size_push]
  have e1 : H1[H.size]? = some (arrV (cA v 3) n (fun j => .int (f j))) := by rw [← hH1, Array.getElem?_push_size]
  have o1 : ∀ q : Nat, q < H.size → H1[q]? = H[q]? := fun q hq => by rw [← hH1, Array.getElem?_push, if_neg (Nat.ne_of_lt hq)]
  obtain ⟨t, b1, b2⟩ := kk hfr p l e s m args below meth c F H1 locs A z1 (hH.new h0 e1 o1) ⟨Nat.le_trans hS.1 (by omega), fun x h1 h2 => (o1 x (Nat.lt_of_lt_of_le h1 hS.1)).trans (hS.2.1 x h1 h2), hS.2.2⟩ hl ((T.setVm vm').pushCell (arrV (cA v 3) n (fun j => .int (f j)))) (by rw [← hH1, ← hT]; rfl) X'
  refine ⟨t, st' t ?_, b2⟩
  rw [hcellE, hT]
  exact b1
theorem r_castB {a idx n : Nat} {f : Nat → Int32} (d : decode M.2.1 pc = .ok (.checkcast idx, 3)) (hlk : Cond.classLink M.1.cls idx "[B" ∈ big) (hh : h a = some (aB v n f)) (k : J v M R K t0 cells slots h top (pc + 3) ls (.ref a :: st)) : J v M R K t0 cells slots h top pc ls (.ref a :: st) := by
  intro p l e s m args below meth c F H locs A hz hH hS hl
  exact va_castA F.1 F.2.1 F.2.2.2.1 (F.ht _ hlk) (va_P1 (hH a _ hh).2) 0 rfl (va_nm_byte (F.bs.1.2 3 _ rfl).2) d (k p l e s m args below meth c F H locs A hz hH hS hl)
theorem ou_row (c : ClassId) (N h0 : Nat) : ∀ i : Nat, Jvm.Free.Multi.outerC c N h0 i = arrV c N (fun j => va_rf (if j < i then some (h0 + 1 + j) else none))
  | 0 => by
    show ({ cls := c, slots := Array.replicate N .null, vm := .none } : Cell) = _
    rw [arrV_new]
    rfl
  | i + 1 => by
    show (Jvm.Free.Multi.outerC c N h0 i).setSlot i (.ref (h0 + 1 + i)) = _
    rw [ou_row c N h0 i, arrV_store]
    refine congrArg (arrV c N) (funext fun j => ?_)
    by_cases e : j = i
    · subst e
      simp [updV, va_rf]
    · have e1 : updV (fun j => va_rf (if j < i then some (h0 + 1 + j) else none)) i (Value.ref (h0 + 1 + i)) j = va_rf (if j < i then some (h0 + 1 + j) else none) := by
        unfold updV
        rw [if_neg e]
      rw [e1]
      by_cases h : j < i
      · rw [if_pos h, if_pos (by omega)]
      · rw [if_neg h, if_neg (by omega)]
/-- the rows of a new int[6][6] at top -/
def mnaH (v : Ev) (h : Hp) (top : Nat) : Hp := fun a => if top + 1 ≤ a ∧ a < top + 7 then some (aI v 6 (fun _ => 0)) else if a = top then some (aQ v 6 (fun i => if i < 6 then some (top + 1 + i) else none)) else h a
theorem six_str : "[" ++ (FieldType.array FieldType.int).toString = "[[I" := by decide +kernel
theorem six_str1 : (FieldType.array FieldType.int).toString = "[" ++ FieldType.int.toString := by decide +kernel
theorem r_mna {idx : Nat} (d : decode M.2.1 pc = .ok (.multianewarray idx 2, 4)) (hlk : Cond.classLink M.1.cls idx "[[I" ∈ big) (hc : cells + 7 ≤ R.cells) (hs : slots + 42 ≤ R.slots)
    (kk : J v M R K t0 (cells + 1 + 6) (slots + 6 + 6 * 6) (mnaH v h top) (top + 7) (pc + 4) ls (.ref top :: st)) : J v M R K t0 cells slots h top pc ls (.int (nI 6) :: .int (nI 6) :: st) := by
  intro p l e s m args below meth c F H locs A hz hH hS hl
  have h0 : z0 v ≤ H.size := Nat.le_trans F.z hS.1
  have c6 : (nI 6).toNatClampNeg = 6 := nI_clamp (by omega)
  intro T hT Xs
  obtain ⟨vm₁, cA1, comp, -, fA, fC, hO, hI, X', step⟩ := Xs.multianewarray2F (ty := .int) F.1 F.2.2.2.1 (by rw [six_str]; exact F.ht _ hlk) (show (Cond.arrayOver (.array .int)).before args s = true from F.bs.2.1.2.2.2.2) (F.ht _ ac_int) (g := F0 m pc A (.int (nI 6) :: .int (nI 6) :: st)) rfl (by rw [F.2.1]; exact d) rfl (nI_pos (by omega)) (nI_pos (by omega)) (by rw [c6]; exact Nat.le_of_ble_eq_true rfl) (by rw [c6]; exact Nat.le_of_ble_eq_true rfl) (by rw [c6]; exact Nat.le_of_ble_eq_true rfl) rfl rfl (by rw [c6]; omega) (by rw [c6]; omega)
  rw [c6] at X' step
  have hA1 : cA1 = cA v 6 := Option.some.inj (fA.symm.trans (show s.vm.findClass ("[" ++ (FieldType.array FieldType.int).toString) = some (cA v 6) from (F.bs.1.2 6 _ rfl).2))
  have hC1 : comp = cA v 0 := by
    rw [six_str1] at fC
    exact Option.some.inj (fC.symm.trans (show s.vm.findClass ("[" ++ FieldType.int.toString) = some (cA v 0) from (F.bs.1.2 0 _ rfl).2))
  subst hA1
  subst hC1
  obtain ⟨f1, f2, -, -⟩ := Jvm.Free.Multi.fill_facts (T.setVm vm₁) (cA v 6) (cA v 0) 6 6 (defaultValue .int) 6
  have f3 : ∀ a : Nat, a < (T.setVm vm₁).heap.size → (Jvm.Free.Multi.fill (T.setVm vm₁) (cA v 6) (cA v 0) 6 6 (defaultValue .int) 6).heap[a]? = (T.setVm vm₁).heap[a]? := fun a ha => Jvm.Free.Multi.fill_old (T.setVm vm₁) (cA v 6) (cA v 0) 6 6 (defaultValue .int) (a := a) ha 6
  have f4 := fun (j : Nat) (hj : j < 6) => Jvm.Free.Multi.fill_inner (T.setVm vm₁) (cA v 6) (cA v 0) 6 6 (defaultValue .int) 6 j hj
  generalize hF : Jvm.Free.Multi.fill (T.setVm vm₁) (cA v 6) (cA v 0) 6 6 (defaultValue .int) 6 = G at X' step f1 f2 f3 f4
  have hTh : (T.setVm vm₁).heap = H := hT
  rw [hTh] at f1 f2 f3 f4
  rw [hz] at f1 f2 f4
  have e6 : Jvm.Free.Multi.outerC (cA v 6) 6 top 6 = arrV (cA v 6) 6 (fun j => va_rf (if j < 6 then some (top + 1 + j) else none)) := ou_row (cA v 6) 6 top 6
  rw [e6] at f2
  have e0 : Jvm.Free.Multi.innerC (cA v 0) 6 (defaultValue .int) = arrV (cA v 0) 6 (fun _ => defaultValue .int) := by
    show ({ cls := cA v 0, slots := Array.replicate 6 (defaultValue .int), vm := .none } : Cell) = _
    rw [arrV_new]
  have hH1 : Hh v (mnaH v h top) G.heap := by
    intro a e9 ha
    unfold mnaH at ha
    split at ha
    · next hr =>
      cases ha
      refine ⟨by omega, ?_⟩
      show G.heap[a]? = some (arrV (cA v 0) 6 (fun _ => defaultValue .int))
      have q := f4 (a - (top + 1)) (by omega)
      rw [show top + 1 + (a - (top + 1)) = a by omega, e0] at q
      exact q
    · split at ha
      · next hr =>
        cases ha
        subst hr
        exact ⟨by omega, f2⟩
      · have hlt := hH.lt ha
        exact ⟨(hH a e9 ha).1, (hH a e9 ha).2.kept (f3 a hlt)⟩
  obtain ⟨t, a1, b1⟩ := kk p l e s m args below meth c F G.heap locs A (by rw [f1]) hH1 ⟨Nat.le_trans hS.1 (by rw [f1, hz]; omega), fun x g1 g2 => (f3 x (Nat.lt_of_lt_of_le g1 hS.1)).trans (hS.2.1 x g1 g2), hS.2.2⟩ hl G rfl X'
  refine ⟨t, step t ?_, b1⟩
  rw [hT, hz]
  exact a1
/-- a method of StringBuilder's parent, found by the receiver -/
theorem r_callU {MX M' : Md} {C : String} {idx n d' mc' ms' b ci : Nat} {fs As rest : List Value} {r : vw_C} {Qr : Option Value → Hp → Nat → Prop} (d : decode M.2.1 pc = .ok (.invokevirtual idx, 3)) (hl : Cond.methodLink M.1.cls idx MX.1 ∈ big) (hhX : MX.2.2.2.2 = []) (mx : MwB MX n) (hix : Cond.instanceMethod MX.1 ∈ big) (hsm : Cond.sameMethod MX.1.cls MX.1.cls MX.1.name MX.1.desc ∈ big) (hsel : Cond.selects C MX.1 M'.1 ∈ big)
    (hh : M'.2.2.2.2 = []) (mw : MwB M' n) (hiy : Cond.instanceMethod M'.1 ∈ big) (hR : Fits R M' d')
    (hb : h b = some (ob ci fs)) (hci : vwCl[ci]? = some r) (hr1 : r.1 = C) (hC : Cal v M' d' mc' ms' (.ref b :: As) h top Qr noX) (hst : st = As.reverse ++ .ref b :: rest) (hn : As.length = n) (hW : (rest.map fun w => w.category).sum ≤ 8) (hc : cells + mc' ≤ R.cells) (hs : slots + ms' ≤ R.slots)
    (k : ∀ (rv : Option Value) (h' : Hp) (top' : Nat), Qr rv h' top' → J v M R K t0 (cells + mc') (slots + ms') h' top' (pc + 3) ls (rv.toList ++ rest)) : J v M R K t0 cells slots h top pc ls st := by
  intro p l e s m args below meth c F H locs A hz hH hS hl2
  obtain ⟨w1, w2, w3, w4⟩ := mw
  obtain ⟨x1, x2, x3, x4⟩ := mx
  subst hst
  have hcw : cw M' = Cond.code M'.1 M'.2.1 M'.2.2.1 M'.2.2.2.1 := by unfold cw; rw [hh]
  have hcx : cw MX = Cond.code MX.1 MX.2.1 MX.2.2.1 MX.2.2.2.1 := by unfold cw; rw [hhX]
  have hrecv : ∃ cellB : Cell, H[b]? = some cellB ∧ cellB.vm.isStatics = false ∧ s.vm.findClass C = some cellB.cls := by
    rw [← hr1]
    exact va_recv F.bs.1 (va_P1 (hH b _ hb).2) hci (q0 := 0) rfl
  refine J_after (vx_runU (Ts := big) (own := M.1.cls) (C := C) (owner := MX.1.cls) (x := MX.1) (y := M'.1) (bytes := M'.2.1) (maxL := M'.2.2.1) (ret := M'.2.2.2.1) (n := n) ⟨F.1, F.2.1, F.2.2.1, F.2.2.2.1, F.ht⟩ (hC l F.2.2.2.2.2.2.2.1) ⟨⟨rfl, rfl, hR.1, hR.2, pay_in F.ht (good_big w1), by rw [hcw]; exact List.mem_cons_self⟩, by rw [← hcw]; exact F.ht _ w1, F.ht _ w2, x3, desc_len x4, F.ht _ hl, F.ht _ hsm, va_Decl.of (F.ht _ hix) (by rw [← hcx]; exact F.ht _ x1), F.ht _ hsel, F.ht _ hiy⟩ ⟨Rp.blind, hrecv, fun U hU hW1 => ⟨rfl, J_pre F hz hH hS hU hW1⟩⟩ rfl hn hl2.1 rfl (by show 2 * 0 + _ ≤ 8; omega) d ⟨hc, hs⟩) hS ?_ ?_
  · intro rv h' top' H' locs' hq hz' hH' hS'
    exact k rv h' top' hq p l e s m args below meth c F H' locs' A hz' hH' hS' hl2
  · intro E ce q h' top' H' locs' hq
    exact hq.elim
/-- super.m(..) -/
theorem r_callP {M' : Md} {C : String} {N : Nat} {idx n d' mc' ms' b ci : Nat} {fs As rest : List Value} {r : vw_C} {Qr : Option Value → Hp → Nat → Prop} (d : decode M.2.1 pc = .ok (.invokespecial idx, 3)) (hl : Cond.methodLink M.1.cls idx M'.1 ∈ big) (hsm : Cond.sameMethod M'.1.cls M'.1.cls M'.1.name M'.1.desc ∈ big) (hsu : Cond.superclass M.1.cls M'.1.cls ∈ big) (hno : M'.1.name ≠ "<init>") (hins : Cond.instantiable C N ∈ big)
    (hh : M'.2.2.2.2 = []) (mw : MwB M' n) (hiy : Cond.instanceMethod M'.1 ∈ big) (hR : Fits R M' d')
    (hb : h b = some (ob ci fs)) (hci : vwCl[ci]? = some r) (hr1 : r.1 = C) (hC : Cal v M' d' mc' ms' (.ref b :: As) h top Qr noX) (hst : st = As.reverse ++ .ref b :: rest) (hn : As.length = n) (hW : (rest.map fun w => w.category).sum ≤ 8) (hc : cells + mc' ≤ R.cells) (hs : slots + ms' ≤ R.slots)
    (k : ∀ (rv : Option Value) (h' : Hp) (top' : Nat), Qr rv h' top' → J v M R K t0 (cells + mc') (slots + ms') h' top' (pc + 3) ls (rv.toList ++ rest)) : J v M R K t0 cells slots h top pc ls st := by
  intro p l e s m args below meth c F H locs A hz hH hS hl2
  obtain ⟨w1, w2, w3, w4⟩ := mw
  subst hst
  have hcw : cw M' = Cond.code M'.1 M'.2.1 M'.2.2.1 M'.2.2.2.1 := by unfold cw; rw [hh]
  have hrecv : ∃ cellB : Cell, H[b]? = some cellB ∧ cellB.vm.isStatics = false ∧ s.vm.findClass C = some cellB.cls := by
    rw [← hr1]
    exact va_recv F.bs.1 (va_P1 (hH b _ hb).2) hci (q0 := 0) rfl
  obtain ⟨cC, hat⟩ := classAt_of (F.ht _ hins)
  refine J_after (vx_runSU (Ts := big) (own := M.1.cls) (C := C) (cC := cC) (y := M'.1) (bytes := M'.2.1) (maxL := M'.2.2.1) (ret := M'.2.2.2.1) (n := n) hat ⟨F.1, F.2.1, F.2.2.1, F.2.2.2.1, F.ht⟩ (hC l F.2.2.2.2.2.2.2.1) ⟨⟨rfl, rfl, hR.1, hR.2, pay_in F.ht (good_big w1), by rw [hcw]; exact List.mem_cons_self⟩, F.ht _ hl, F.ht _ hsm, F.ht _ hsu, F.ht _ hiy, F.ht _ w2, by rw [← hcw]; exact F.ht _ w1, hno, desc_len w4⟩ ⟨Rp.blind, hrecv, fun U hU hW1 => ⟨rfl, J_pre F hz hH hS hU hW1⟩⟩ rfl hn hl2.1 rfl (by show 2 * 0 + _ ≤ 8; omega) d ⟨hc, hs⟩) hS ?_ ?_
  · intro rv h' top' H' locs' hq hz' hH' hS'
    exact k rv h' top' hq p l e s m args below meth c F H' locs' A hz' hH' hS' hl2
  · intro E ce q h' top' H' locs' hq
    exact hq.elim
end J10

