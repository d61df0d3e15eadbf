/-! ===== J rows: calls, ends, throws, the JDK's small ones ===== -/
def MwB (M : Md) (n : Nat) : Prop := cw M ∈ big ∧ Cond.initialized M.1.cls ∈ big ∧ (M.1.cls ≠ "java/lang/invoke/MethodHandle" ∧ M.1.cls ≠ "java/lang/invoke/VarHandle") ∧ (parseMethodDescriptor M.1.desc).map (fun d => d.parameters.length) = some n
def MwV (M : Md) (n : Nat) : Prop := MwB M n ∧ Cond.instanceMethod M.1 ∈ big ∧ Cond.selects M.1.cls M.1 M.1 ∈ big
def MwS (M : Md) (n : Nat) : Prop := MwB M n ∧ Cond.static M.1 ∈ big
def MwI (M : Md) (n : Nat) : Prop := MwB M n ∧ M.1.name = "<init>" ∧ Cond.instanceMethod M.1 ∈ big
/-- what a callee of d' frames asks of the room -/
def Fits (R : Room) (M' : Md) (d' : Nat) : Prop := d' + 1 ≤ R.frames ∧ 8 + (M'.2.2.1 + 11) + 60 * d' ≤ R.locals
theorem good_big {M' : Md} (hc : cw M' ∈ big) : GoodIn big (cw M' :: big) := by
  intro w hw
  have hb : w ∈ big := by
    rcases List.mem_cons.mp hw with h | h
    · rw [h]; exact hc
    · exact h
  exact ⟨hb, good_of_word (big_good hb)⟩
theorem desc_len {M' : Md} {n : Nat} (h : (parseMethodDescriptor M'.1.desc).map (fun d => d.parameters.length) = some n) : ∀ sig, parseMethodDescriptor M'.1.desc = some sig → n = sig.parameters.length := by
  intro sig hs
  rw [hs] at h
  exact (Option.some.inj h).symm
section JC
variable {v : Ev} {M : Md} {R : Room} {K : List Frame → Array Value → State → State → Prop} {t0 cells slots : Nat} {h : Hp} {top pc : Nat} {ls : List (Option Value)} {st : List Value}
theorem J_pre {p : Program} {l : Launch} {s : State} {m : MethodId} {args : Array Value} {meth : Method} {c : Code} (F : Fx v M t0 p l s m args meth c) {H : Heap} {locs : List Loc} (hz : H.size = top) (hH : Hh v h H) (hS : va_S (Ar v) s.heap H locs) {U : State} (hU : U.heap = H) (hW : s.WarmedH U.vm) : Rp v h top U :=
  ⟨F.bs.warm hW (hS.F hU), by rw [hU]; exact hz, by rw [← hz]; exact Nat.le_trans F.z hS.1, by rw [hU]; exact hH⟩
/-- behind a call -/
theorem J_after {p : Program} {l : Launch} {e : Env} {R : Room} {s : State} {m : MethodId} {args : Array Value} {below : List Frame} {meth : Method} {c : Code} {H : Heap} {locs : List Loc} {cells slots : Nat} {Q : State → Prop} {mc ms : Nat} {A : Array Slot} {st0 rest : List Value} {a : Array Value} {Qr : Option Value → Hp → Nat → Prop} {Qx : String → Hp → Nat → Prop}
    (hr : vx_Run p l e R s m args below meth c H locs cells slots mc ms (F0 m pc A st0) rest (Qc v Qr a) (XC v Qx) (Ar v)) (hS : va_S (Ar v) s.heap H locs)
    (k : ∀ (r : Option Value) (h' : Hp) (top' : Nat) (H' : Heap) (locs' : List Loc), Qr r h' top' → H'.size = top' → Hh v h' H' → va_S (Ar v) s.heap H' locs' → W p l e R s m args below meth c H' locs' (cells + mc) (slots + ms) Q (F0 m (pc + 3) A (r.toList ++ rest)))
    (kx : ∀ (E : String) (ce : Cell) (q : Addr) (h' : Hp) (top' : Nat) (H' : Heap) (locs' : List Loc), Qx E h' top' → H'.size = top' → Hh v h' H' → va_S (Ar v) s.heap H' locs' → H'[q]? = some ce → ce.vm = .none → s.vm.findClass E = some ce.cls → vx_W p l e R s m args below meth c H' locs' (cells + mc) (slots + ms) Q (F0 m pc A rest) q) :
    W p l e R s m args below meth c H locs cells slots Q (F0 m pc A st0) := by
  intro T hT X
  rcases hr T hT X with ⟨rv, st₀, t, T', L, g0, X', hL, e1, e2, ⟨⟨r, h', top', hoc, hq, hz', hH'⟩, hF⟩, hgo⟩ | ⟨q, st₀, t, T', L, E, ce, g0, X', hL, e1, e2, ⟨⟨h', top', hq, hz', hH'⟩, hF⟩, hce, hcv, hcl, hgo⟩
  · cases hoc
    obtain ⟨-, -, hS1⟩ := vx_keep g0 e1 hS (fun _ _ x => x) (fun _ x => x) hL hF
    obtain ⟨t2, a1, b1⟩ := k rv h' top' T'.heap (locs ++ L) hq (by rw [e1]; exact hz') (by rw [e1]; exact hH') hS1 T' rfl X'
    exact ⟨t2, hgo t2 a1, b1⟩
  · obtain ⟨-, -, hS1⟩ := vx_keep g0 e1 hS (fun _ _ x => x) (fun _ x => x) hL hF
    obtain ⟨t2, a1, b1⟩ := kx E ce q h' top' T'.heap (locs ++ L) hq (by rw [e1]; exact hz') (by rw [e1]; exact hH') hS1 (by rw [e1]; exact hce) hcv hcl T' rfl X'
    exact ⟨t2, hgo.trans a1, b1⟩
theorem J_callB {M' : Md} {idx n d' mc' ms' : Nat} {p : Program} {l : Launch} {s : State} {m : MethodId} {args : Array Value} {meth : Method} {c : Code} (F : Fx v M t0 p l s m args meth c) (hh : M'.2.2.2.2 = []) (mw : MwB M' n) (hl : Cond.methodLink M.1.cls idx M'.1 ∈ big) (hR : Fits R M' d') :
    CallB R s args M.1.cls idx M'.1 M'.2.1 M'.2.2.1 M'.2.2.2.1 (cw M' :: big) (rmOf d' mc' ms') mc' ms' n := by
  have hc : cw M' = Cond.code M'.1 M'.2.1 M'.2.2.1 M'.2.2.2.1 := by unfold cw; rw [hh]
  obtain ⟨w1, w2, w3, w4⟩ := mw
  refine ⟨rfl, rfl, hR.1, hR.2, pay_in F.ht (good_big w1), by rw [hc]; exact List.mem_cons_self, by rw [← hc]; exact F.ht _ w1, F.ht _ w2, w3, desc_len w4, F.ht _ hl⟩
/-- a call of a method that doesn't throw -/
theorem r_callV {M' : Md} {idx n d' mc' ms' b ci : Nat} {fs As rest : List Value} {r : vw_C} {Qr : Option Value → Hp → Nat → Prop} (d : decode M.2.1 pc = .ok (.invokevirtual idx, 3)) (hl : Cond.methodLink M.1.cls idx M'.1 ∈ big) (hh : M'.2.2.2.2 = []) (mw : MwV M' n) (hR : Fits R M' d')
    (hb : h b = some (ob ci fs)) (hci : vwCl[ci]? = some r) (hr1 : r.1 = M'.1.cls) (hC : Cal v M' d' mc' ms' (.ref b :: As) h top Qr noX) (hst : st = As.reverse ++ .ref b :: rest) (hn : As.length = n) (hW : (rest.map fun w => w.category).sum ≤ 8) (hc : cells + mc' ≤ R.cells) (hs : slots + ms' ≤ R.slots)
    (k : ∀ (rv : Option Value) (h' : Hp) (top' : Nat), Qr rv h' top' → J v M R K t0 (cells + mc') (slots + ms') h' top' (pc + 3) ls (rv.toList ++ rest)) : J v M R K t0 cells slots h top pc ls st := by
  intro p l e s m args below meth c F H locs A hz hH hS hl2
  obtain ⟨w0, w5, w6⟩ := mw
  subst hst
  have hrecv : ∃ cellB : Cell, H[b]? = some cellB ∧ cellB.vm.isStatics = false ∧ s.vm.findClass M'.1.cls = some cellB.cls := by
    rw [← hr1]
    exact va_recv F.bs.1 (va_P1 (hH b _ hb).2) hci (q0 := 0) rfl
  refine J_after (vx_runV (Ts := big) (own := M.1.cls) (C := M'.1.cls) ⟨F.1, F.2.1, F.2.2.1, F.2.2.2.1, F.ht⟩ (hC l F.2.2.2.2.2.2.2.1) ⟨J_callB F hh w0 hl hR, F.ht _ w5, F.ht _ w6⟩ ⟨Rp.blind, hrecv, fun U hU hW1 => ⟨rfl, J_pre F hz hH hS hU hW1⟩⟩ rfl hn hl2.1 rfl (by show 2 * 0 + _ ≤ 8; omega) d ⟨hc, hs⟩) hS ?_ ?_
  · intro rv h' top' H' locs' hq hz' hH' hS'
    exact k rv h' top' hq p l e s m args below meth c F H' locs' A hz' hH' hS' hl2
  · intro E ce q h' top' H' locs' hq
    exact hq.elim
theorem r_callS {M' : Md} {idx n d' mc' ms' : Nat} {As rest : List Value} {Qr : Option Value → Hp → Nat → Prop} (d : decode M.2.1 pc = .ok (.invokestatic idx, 3)) (hl : Cond.methodLink M.1.cls idx M'.1 ∈ big) (hh : M'.2.2.2.2 = []) (mw : MwS M' n) (hR : Fits R M' d')
    (hC : Cal v M' d' mc' ms' As h top Qr noX) (hst : st = As.reverse ++ rest) (hn : As.length = n) (hW : (rest.map fun w => w.category).sum ≤ 8) (hc : cells + mc' ≤ R.cells) (hs : slots + ms' ≤ R.slots)
    (k : ∀ (rv : Option Value) (h' : Hp) (top' : Nat), Qr rv h' top' → J v M R K t0 (cells + mc') (slots + ms') h' top' (pc + 3) ls (rv.toList ++ rest)) : J v M R K t0 cells slots h top pc ls st := by
  intro p l e s m args below meth c F H locs A hz hH hS hl2
  obtain ⟨w0, w5⟩ := mw
  subst hst
  refine J_after (vx_runS (Ts := big) (own := M.1.cls) ⟨F.1, F.2.1, F.2.2.1, F.2.2.2.1, F.ht⟩ (hC l F.2.2.2.2.2.2.2.1) ⟨J_callB F hh w0 hl hR, F.ht _ w5⟩ ⟨Rp.blind, fun U hU hW1 => ⟨rfl, J_pre F hz hH hS hU hW1⟩⟩ rfl hn hl2.1 rfl (by show 2 * 0 + _ ≤ 8; omega) d ⟨hc, hs⟩) hS ?_ ?_
  · intro rv h' top' H' locs' hq hz' hH' hS'
    exact k rv h' top' hq p l e s m args below meth c F H' locs' A hz' hH' hS' hl2
  · intro E ce q h' top' H' locs' hq
    exact hq.elim
/-- a static call of a method with a table of handlers, which throws nothing -/
theorem r_callSH {M' : Md} {idx n d' mc' ms' : Nat} {As rest : List Value} {Qr : Option Value → Hp → Nat → Prop} {x : Nat × Nat × Nat × Nat} {hs1 : List (Nat × Nat × Nat × Nat)} (d : decode M.2.1 pc = .ok (.invokestatic idx, 3)) (hl : Cond.methodLink M.1.cls idx M'.1 ∈ big) (hh : M'.2.2.2.2 = x :: hs1) (mw : MwS M' n) (hR : Fits R M' d')
    (hC : Cal v M' d' mc' ms' As h top Qr noX) (hst : st = As.reverse ++ rest) (hn : As.length = n) (hW : (rest.map fun w => w.category).sum ≤ 8) (hc : cells + mc' ≤ R.cells) (hs : slots + ms' ≤ R.slots)
    (k : ∀ (rv : Option Value) (h' : Hp) (top' : Nat), Qr rv h' top' → J v M R K t0 (cells + mc') (slots + ms') h' top' (pc + 3) ls (rv.toList ++ rest)) : J v M R K t0 cells slots h top pc ls st := by
  intro p l e s m args below meth c F H locs A hz hH hS hl2
  obtain ⟨⟨w1, w2, w3, w4⟩, w5⟩ := mw
  subst hst
  have hcw : cw M' = Cond.codeWith M'.1 M'.2.1 M'.2.2.1 M'.2.2.2.1 M'.2.2.2.2 := by unfold cw; rw [hh]
  refine J_after (vx_runSX (Ts := big) (own := M.1.cls) (hh := M'.2.2.2.2) (bytes := M'.2.1) (maxL := M'.2.2.1) (ret := M'.2.2.2.1) ⟨F.1, F.2.1, F.2.2.1, F.2.2.2.1, F.ht⟩ (hC l F.2.2.2.2.2.2.2.1) ⟨⟨rfl, rfl, hR.1, hR.2, pay_in F.ht (good_big w1), by rw [hcw]; exact List.mem_cons_self⟩, by rw [← hcw]; exact F.ht _ w1, F.ht _ w2, w3, desc_len w4, F.ht _ hl, F.ht _ w5⟩ ⟨Rp.blind, fun U hU hW1 => ⟨rfl, J_pre F hz hH hS hU hW1⟩⟩ rfl hn hl2.1 rfl (by show 2 * 0 + _ ≤ 8; omega) d ⟨hc, hs⟩) hS ?_ ?_
  · intro rv h' top' H' locs' hq hz' hH' hS'
    exact k rv h' top' hq p l e s m args below meth c F H' locs' A hz' hH' hS' hl2
  · intro E ce q h' top' H' locs' hq
    exact hq.elim
theorem r_callI {M' : Md} {idx n d' mc' ms' b : Nat} {As rest : List Value} {Qr : Option Value → Hp → Nat → Prop} (d : decode M.2.1 pc = .ok (.invokespecial idx, 3)) (hl : Cond.methodLink M.1.cls idx M'.1 ∈ big ∨ ∃ host, Cond.methodLinkNest M.1.cls idx M'.1 host ∈ lw_tbl) (hh : M'.2.2.2.2 = []) (hret : M'.2.2.2.1 = none) (mw : MwI M' n) (hR : Fits R M' d')
    (hC : Cal v M' d' mc' ms' (.ref b :: As) h top Qr noX) (hst : st = As.reverse ++ .ref b :: rest) (hn : As.length = n) (hW : (rest.map fun w => w.category).sum ≤ 8) (hc : cells + mc' ≤ R.cells) (hs : slots + ms' ≤ R.slots)
    (k : ∀ (rv : Option Value) (h' : Hp) (top' : Nat), Qr rv h' top' → J v M R K t0 (cells + mc') (slots + ms') h' top' (pc + 3) ls (rv.toList ++ rest)) : J v M R K t0 cells slots h top pc ls st := by
  intro p l e s m args below meth c F H locs A hz hH hS hl2
  obtain ⟨w0, w5, w6⟩ := mw
  subst hst
  rcases hl with hl | ⟨host, hl⟩
  · refine J_after (vx_runI (Ts := big) (own := M.1.cls) ⟨F.1, F.2.1, F.2.2.1, F.2.2.2.1, F.ht⟩ (hC l F.2.2.2.2.2.2.2.1) ⟨hret ▸ J_callB F hh w0 hl hR, w5, F.ht _ w6⟩ ⟨Rp.blind, fun U hU hW1 => ⟨rfl, J_pre F hz hH hS hU hW1⟩⟩ rfl hn hl2.1 rfl (by show 2 * 0 + _ ≤ 8; omega) d ⟨hc, hs⟩) hS ?_ ?_
    · intro rv h' top' H' locs' hq hz' hH' hS'
      exact k rv h' top' hq p l e s m args below meth c F H' locs' A hz' hH' hS' hl2
    · intro E ce q h' top' H' locs' hq
      exact hq.elim
  · obtain ⟨w1, w2, w3, w4⟩ := w0
    have hcw : cw M' = Cond.code M'.1 M'.2.1 M'.2.2.1 none := by unfold cw; rw [hh, hret]
    refine J_after (vx_runIN (Ts := big) (own := M.1.cls) (host := host) (bytes := M'.2.1) (maxL := M'.2.2.1) ⟨F.1, F.2.1, F.2.2.1, F.2.2.2.1, F.ht⟩ (hC l F.2.2.2.2.2.2.2.1) ⟨⟨⟨rfl, rfl, hR.1, hR.2, pay_in F.ht (good_big w1), by rw [hcw]; exact List.mem_cons_self⟩, by rw [← hcw]; exact F.ht _ w1, F.ht _ w2, w3, desc_len w4, F.nest hl rfl⟩, w5, F.ht _ w6⟩ ⟨Rp.blind, fun U hU hW1 => ⟨rfl, J_pre F hz hH hS hU hW1⟩⟩ rfl hn hl2.1 rfl (by show 2 * 0 + _ ≤ 8; omega) d ⟨hc, hs⟩) hS ?_ ?_
    · intro rv h' top' H' locs' hq hz' hH' hS'
      exact k rv h' top' hq p l e s m args below meth c F H' locs' A hz' hH' hS' hl2
    · intro E ce q h' top' H' locs' hq
      exact hq.elim
/-- what was thrown goes on to the caller -/
theorem J_out {Qr : Option Value → Hp → Nat → Prop} {Qx : String → Hp → Nat → Prop} {mc ms : Nat} {p : Program} {l : Launch} {e : Env} {R : Room} {s : State} {m : MethodId} {args : Array Value} {below : List Frame} {meth : Method} {c : Code} {H : Heap} {locs : List Loc} {cells slots : Nat} {A : Array Slot} {rest : List Value} {E : String} {ce : Cell} {q : Addr}
    (F : Fx v M t0 p l s m args meth c) (hhM : M.2.2.2.2 = []) (hx : Qx E h top) (hz : H.size = top) (hH : Hh v h H) (hS : va_S (Ar v) s.heap H locs) (hcell : H[q]? = some ce) (hv : ce.vm = .none) (hcl : s.vm.findClass E = some ce.cls) (hc : cells ≤ mc) (hs : slots ≤ ms) :
    vx_W p l e R s m args below meth c H locs cells slots (KM v Qr Qx mc ms below args s) (F0 m pc A rest) q := by
  have htab : ∀ x ∈ c.exceptionTable.toList, covers x pc = false := by
    obtain ⟨-, -, -, -, -, -, -, -, -, -, -, -, h1⟩ := F
    rw [h1, hhM]
    intro x hx
    cases hx
  exact vx_out htab F.2.2.2.2.2.2.1 hcell hv hcl (fun t ht _ => ⟨⟨h, top, hx, by rw [ht]; exact hz, by rw [ht]; exact hH⟩, hS.F ht⟩) hS.2.2 hc hs
/-- a call of a method that may throw; what it throws goes on -/
theorem r_callVX {M' : Md} {idx n d' mc' ms' b ci mc ms : Nat} {fs As rest : List Value} {r : vw_C} {Qr Qr0 : Option Value → Hp → Nat → Prop} {Qx Qx0 : String → Hp → Nat → Prop} (d : decode M.2.1 pc = .ok (.invokevirtual idx, 3)) (hl : Cond.methodLink M.1.cls idx M'.1 ∈ big) (hh : M'.2.2.2.2 = []) (hhM : M.2.2.2.2 = []) (mw : MwV M' n) (hR : Fits R M' d')
    (hb : h b = some (ob ci fs)) (hci : vwCl[ci]? = some r) (hr1 : r.1 = M'.1.cls) (hC : Cal v M' d' mc' ms' (.ref b :: As) h top Qr Qx) (hst : st = As.reverse ++ .ref b :: rest) (hn : As.length = n) (hW : (rest.map fun w => w.category).sum ≤ 8) (hc : cells + mc' ≤ R.cells) (hs : slots + ms' ≤ R.slots) (hc2 : cells + mc' ≤ mc) (hs2 : slots + ms' ≤ ms)
    (k : ∀ (rv : Option Value) (h' : Hp) (top' : Nat), Qr rv h' top' → J v M R (KM v Qr0 Qx0 mc ms) t0 (cells + mc') (slots + ms') h' top' (pc + 3) ls (rv.toList ++ rest))
    (kx : ∀ (E : String) (h' : Hp) (top' : Nat), Qx E h' top' → Qx0 E h' top') : J v M R (KM v Qr0 Qx0 mc ms) t0 cells slots h top pc ls st := by
  intro p l e s m args below meth c F H locs A hz hH hS hl2
  obtain ⟨w0, w5, w6⟩ := mw
  subst hst
  have hrecv : ∃ cellB : Cell, H[b]? = some cellB ∧ cellB.vm.isStatics = false ∧ s.vm.findClass M'.1.cls = some cellB.cls := by
    rw [← hr1]
    exact va_recv F.bs.1 (va_P1 (hH b _ hb).2) hci (q0 := 0) rfl
  refine J_after (vx_runV (Ts := big) (own := M.1.cls) (C := M'.1.cls) ⟨F.1, F.2.1, F.2.2.1, F.2.2.2.1, F.ht⟩ (hC l F.2.2.2.2.2.2.2.1) ⟨J_callB F hh w0 hl hR, F.ht _ w5, F.ht _ w6⟩ ⟨Rp.blind, hrecv, fun U hU hW1 => ⟨rfl, J_pre F hz hH hS hU hW1⟩⟩ rfl hn hl2.1 rfl (by show 2 * 0 + _ ≤ 8; omega) d ⟨hc, hs⟩) hS ?_ ?_
  · intro rv h' top' H' locs' hq hz' hH' hS'
    exact k rv h' top' hq p l e s m args below meth c F H' locs' A hz' hH' hS' hl2
  · intro E ce q h' top' H' locs' hq hz' hH' hS' g1 g2 g3
    exact J_out F hhM (kx E h' top' hq) hz' hH' hS' g1 g2 g3 hc2 hs2
/-- a call of a method that may throw, in a method that catches: the exception's class tells which handler -/
theorem r_callVC {M' : Md} {idx n d' mc' ms' b ci : Nat} {fs As rest : List Value} {r : vw_C} {Qr : Option Value → Hp → Nat → Prop} {Qx : String → Hp → Nat → Prop} (d : decode M.2.1 pc = .ok (.invokevirtual idx, 3)) (hl : Cond.methodLink M.1.cls idx M'.1 ∈ big) (hh : M'.2.2.2.2 = []) (mw : MwV M' n) (hR : Fits R M' d')
    (hb : h b = some (ob ci fs)) (hci : vwCl[ci]? = some r) (hr1 : r.1 = M'.1.cls) (hC : Cal v M' d' mc' ms' (.ref b :: As) h top Qr Qx) (hst : st = As.reverse ++ .ref b :: rest) (hn : As.length = n) (hW : (rest.map fun w => w.category).sum ≤ 8) (hc : cells + mc' ≤ R.cells) (hs : slots + ms' ≤ R.slots)
    (k : ∀ (rv : Option Value) (h' : Hp) (top' : Nat), Qr rv h' top' → J v M R K t0 (cells + mc') (slots + ms') h' top' (pc + 3) ls (rv.toList ++ rest))
    (kx : ∀ (E : String) (q : Addr) (h' : Hp) (top' : Nat), Qx E h' top' → ∃ (pre : List ExceptionTableEntry) (x : ExceptionTableEntry) (suf : List ExceptionTableEntry) (name : String), tableOf M.2.2.2.2 = pre ++ x :: suf ∧
      (∀ z ∈ pre, covers z pc = false ∨ (z.catchType ≠ 0 ∧ ∃ nm : String, Cond.classLink M.1.cls z.catchType nm ∈ big ∧ E ∈ exC ∧ nm ∈ exC ∧ E ≠ nm)) ∧ covers x pc = true ∧ x.catchType ≠ 0 ∧ Cond.classLink M.1.cls x.catchType name ∈ big ∧ Cond.castable E name ∈ lw_tbl ∧
      J v M R K t0 (cells + mc') (slots + ms') h' top' x.handlerPc ls [.ref q]) : J v M R K t0 cells slots h top pc ls st := by
  intro p l e s m args below meth c F H locs A hz hH hS hl2
  obtain ⟨w0, w5, w6⟩ := mw
  subst hst
  have hrecv : ∃ cellB : Cell, H[b]? = some cellB ∧ cellB.vm.isStatics = false ∧ s.vm.findClass M'.1.cls = some cellB.cls := by
    rw [← hr1]
    exact va_recv F.bs.1 (va_P1 (hH b _ hb).2) hci (q0 := 0) rfl
  refine J_after (vx_runV (Ts := big) (own := M.1.cls) (C := M'.1.cls) ⟨F.1, F.2.1, F.2.2.1, F.2.2.2.1, F.ht⟩ (hC l F.2.2.2.2.2.2.2.1) ⟨J_callB F hh w0 hl hR, F.ht _ w5, F.ht _ w6⟩ ⟨Rp.blind, hrecv, fun U hU hW1 => ⟨rfl, J_pre F hz hH hS hU hW1⟩⟩ rfl hn hl2.1 rfl (by show 2 * 0 + _ ≤ 8; omega) d ⟨hc, hs⟩) hS ?_ ?_
  · intro rv h' top' H' locs' hq hz' hH' hS'
    exact k rv h' top' hq p l e s m args below meth c F H' locs' A hz' hH' hS' hl2
  · intro E ce q h' top' H' locs' hq hz' hH' hS' g1 g2 g3
    obtain ⟨pre, x, suf, name, e1, e2, e3, e4, e5, e6, e7⟩ := kx E q h' top' hq
    have htab : c.exceptionTable.toList = pre ++ x :: suf := by
      obtain ⟨-, -, -, -, -, -, -, -, -, -, -, -, h1⟩ := F
      rw [h1, e1]
    refine vx_catch F.2.2.2.1 pre x suf htab (fun z hz => ?_) e3 e4 (F.ht _ e5) (F.nest e6 rfl) g1 g2 g3 (e7 p l e s m args below meth c F H' locs' A hz' hH' hS' hl2)
    rcases e2 z hz with q1 | ⟨q1, nm, q2, q3, q4, q5⟩
    · exact Or.inl q1
    · exact Or.inr ⟨q1, nm, F.ht _ q2, F.bs.2.1.2.2.1 E q3 nm q4 q5⟩
section Ret
variable {Qr : Option Value → Hp → Nat → Prop} {Qx : String → Hp → Nat → Prop} {mc ms : Nat}
theorem J_q {p : Program} {l : Launch} {s t : State} {m : MethodId} {args : Array Value} {meth : Method} {c : Code} (F : Fx v M t0 p l s m args meth c) {r : Option Value} (hq : Qr r h top) {H : Heap} {locs : List Loc} (hz : H.size = top) (hH : Hh v h H) (hS : va_S (Ar v) s.heap H locs) (ht : t.heap = H) : Qc v Qr args s (.returned r) t :=
  ⟨⟨r, h, top, rfl, hq, by rw [ht]; exact hz, by rw [ht]; exact hH⟩, hS.F ht⟩
theorem r_iret {x : Int32} (d : decode M.2.1 pc = .ok (.ireturn, 1)) (hr : M.2.2.2.1 = some .int) (hc : cells ≤ mc) (hs : slots ≤ ms) (hq : Qr (some (.int x)) h top) : J v M R (KM v Qr Qx mc ms) t0 cells slots h top pc ls [.int x] := by
  intro p l e s m args below meth c F H locs A hz hH hS hl
  exact W.widen hc hs (vx_ret (W.iret F.1 F.2.1 (F.2.2.2.2.2.1.trans hr) (fun t ht _ => J_q F hq hz hH hS ht) hS.2.2 d (hlocks := F.2.2.2.2.2.2.1)))
theorem r_zret {x : Int32} {ty : FieldType} (d : decode M.2.1 pc = .ok (.ireturn, 1)) (hr : M.2.2.2.1 = some ty) (hn : narrow ty (.int x) = .int x) (hc : cells ≤ mc) (hs : slots ≤ ms) (hq : Qr (some (.int x)) h top) : J v M R (KM v Qr Qx mc ms) t0 cells slots h top pc ls [.int x] := by
  intro p l e s m args below meth c F H locs A hz hH hS hl
  exact W.widen hc hs (vx_ret (W.zret F.1 F.2.1 (F.2.2.2.2.2.1.trans hr) hn (fun t ht _ => J_q F hq hz hH hS ht) hS.2.2 d (hlocks := F.2.2.2.2.2.2.1)))
theorem r_lret {x : Int64} (d : decode M.2.1 pc = .ok (.lreturn, 1)) (hr : M.2.2.2.1 = some .long) (hc : cells ≤ mc) (hs : slots ≤ ms) (hq : Qr (some (.long x)) h top) : J v M R (KM v Qr Qx mc ms) t0 cells slots h top pc ls [.long x] := by
  intro p l e s m args below meth c F H locs A hz hH hS hl
  exact W.widen hc hs (vx_ret (W.lret F.1 F.2.1 (F.2.2.2.2.2.1.trans hr) (fun t ht _ => J_q F hq hz hH hS ht) hS.2.2 d (hlocks := F.2.2.2.2.2.2.1)))
theorem r_fret {x : UInt32} (d : decode M.2.1 pc = .ok (.freturn, 1)) (hr : M.2.2.2.1 = some .float) (hc : cells ≤ mc) (hs : slots ≤ ms) (hq : Qr (some (.float x)) h top) : J v M R (KM v Qr Qx mc ms) t0 cells slots h top pc ls [.float x] := by
  intro p l e s m args below meth c F H locs A hz hH hS hl
  exact W.widen hc hs (vx_ret (W.fret F.1 F.2.1 (F.2.2.2.2.2.1.trans hr) (fun t ht _ => J_q F hq hz hH hS ht) hS.2.2 d (hlocks := F.2.2.2.2.2.2.1)))
theorem r_aret {x : Nat} {rt : FieldType} (d : decode M.2.1 pc = .ok (.areturn, 1)) (hr : M.2.2.2.1 = some rt) (hrt : (∃ n, rt = .object n) ∨ ∃ t, rt = .array t) (hc : cells ≤ mc) (hs : slots ≤ ms) (hq : Qr (some (.ref x)) h top) : J v M R (KM v Qr Qx mc ms) t0 cells slots h top pc ls [.ref x] := by
  intro p l e s m args below meth c F H locs A hz hH hS hl
  exact W.widen hc hs (vx_ret (W.aret F.1 F.2.1 (F.2.2.2.2.2.1.trans hr) hrt (Or.inr ⟨x, rfl⟩) (fun t ht _ => J_q F hq hz hH hS ht) hS.2.2 d (hlocks := F.2.2.2.2.2.2.1)))
theorem r_vret (d : decode M.2.1 pc = .ok (.return_, 1)) (hr : M.2.2.2.1 = none) (hc : cells ≤ mc) (hs : slots ≤ ms) (hq : Qr none h top) : J v M R (KM v Qr Qx mc ms) t0 cells slots h top pc ls [] := by
  intro p l e s m args below meth c F H locs A hz hH hS hl
  exact W.widen hc hs (vx_ret (W.vret F.1 F.2.1 (F.2.2.2.2.2.1.trans hr) (fun t ht _ => J_q F hq hz hH hS ht) hS.2.2 d (hlocks := F.2.2.2.2.2.2.1)))
/-- 'throw new E("text")' -/
def Xw (own : String) (ik ic : Nat) (cls : String) : Prop := Bundle.fit cls = true ∧ Cond.classLink own ik cls ∈ big ∧ Cond.initialized cls ∈ big ∧
  (∀ w ∈ vx_atS own ic cls ["java/lang/RuntimeException", "java/lang/Exception"], w ∈ lw_tbl ∧ (goodWord w || nwk w) = true) ∧ (∀ w ∈ Cond.classLink own ik cls :: Cond.initialized cls :: vx_atS own ic cls ["java/lang/RuntimeException", "java/lang/Exception"], vx_ot w = true)
theorem Xw.words {own : String} {ik ic : Nat} {cls : String} (x : Xw own ik ic cls) {p : Program} {l : Launch} {s : State} {m : MethodId} {args : Array Value} {meth : Method} {c : Code} (F : Fx v M t0 p l s m args meth c) : ∀ w ∈ vx_atS own ic cls ["java/lang/RuntimeException", "java/lang/Exception"], w.before args s = true := by
  intro w hw
  obtain ⟨h1, h2⟩ := x.2.2.2.1 w hw
  rw [Bool.or_eq_true] at h2
  rcases h2 with h2 | h2
  · exact F.ht _ (big_of h1 h2)
  · exact F.nest h1 h2
theorem ex_fit : ∀ n ∈ ["java/lang/RuntimeException", "java/lang/Exception"], Bundle.fit n = true := by decide +kernel
theorem r_throwW {ik is ic : Nat} {cls tx : String} (i : Nat) (hhM : M.2.2.2.2 = []) (x : Xw M.1.cls ik ic cls) (hst : stTab[i]? = some (M.1.cls, is, tx))
    (d0 : decode M.2.1 pc = .ok (.new ik, 3)) (d3 : decode M.2.1 (pc + 3) = .ok (.dup, 1)) (d4 : decode M.2.1 (pc + 4) = .ok (.ldc_w is, 3)) (d7 : decode M.2.1 (pc + 7) = .ok (.invokespecial ic, 3)) (d10 : decode M.2.1 (pc + 10) = .ok (.athrow, 1))
    (hf : 5 < R.frames) (hl2 : (st.map fun w => w.category).sum + 82 ≤ R.locals) (hc : cells + 1 ≤ R.cells) (hs : slots + 6 ≤ R.slots) (hc2 : cells + 1 ≤ mc) (hs2 : slots + 6 ≤ ms) (hq : ∀ top', top ≤ top' → Qx cls h top') : J v M R (KM v Qr Qx mc ms) t0 cells slots h top pc ls st := by
  intro p l e s m args below meth c F H locs A hz hH hS hl
  have htab : ∀ x ∈ c.exceptionTable.toList, covers x (pc + 10) = false := by
    obtain ⟨-, -, -, -, -, -, -, -, -, -, -, -, h1⟩ := F
    rw [h1, hhM]
    intro x hx
    cases hx
  exact vx_throwSW (names := ["java/lang/RuntimeException", "java/lang/Exception"]) F.1 F.2.1 F.2.2.2.2.2.2.2.1 F.2.2.2.1 x.1 ex_fit (F.ht _ x.2.1) (F.ht _ x.2.2.1) (F.bs.2.1.2.1 i _ hst) (x.words F) x.2.2.2.2 F.old.2.2.1 F.old.2.2.2.1 hS (hl.1.trans F.2.2.1.symm) d0 d3 d4 d7 d10 htab hf hl2 hc hs F.2.2.2.2.2.2.1
    (fun t _ h1 h2 => ⟨⟨h, t.heap.size, hq _ (by omega), rfl, fun a e9 ha => ⟨(hH a e9 ha).1, (hH a e9 ha).2.kept (h2 a (hH.lt ha))⟩⟩, Nat.le_trans hS.1 h1, fun q hq1 hq2 => (h2 q (Nat.lt_of_lt_of_le hq1 hS.1)).trans (hS.2.1 q hq1 hq2)⟩) hS.2.2 hc2 hs2
theorem r_throw {ik is ic : Nat} {cls tx : String} (i : Nat) (hhM : M.2.2.2.2 = []) (x : Xw M.1.cls ik ic cls) (hst : stTab[i]? = some (M.1.cls, is, tx))
    (d0 : decode M.2.1 pc = .ok (.new ik, 3)) (d3 : decode M.2.1 (pc + 3) = .ok (.dup, 1)) (d4 : decode M.2.1 (pc + 4) = .ok (.ldc is, 2)) (d7 : decode M.2.1 (pc + 6) = .ok (.invokespecial ic, 3)) (d10 : decode M.2.1 (pc + 9) = .ok (.athrow, 1))
    (hf : 5 < R.frames) (hl2 : (st.map fun w => w.category).sum + 82 ≤ R.locals) (hc : cells + 1 ≤ R.cells) (hs : slots + 6 ≤ R.slots) (hc2 : cells + 1 ≤ mc) (hs2 : slots + 6 ≤ ms) (hq : ∀ top', top ≤ top' → Qx cls h top') : J v M R (KM v Qr Qx mc ms) t0 cells slots h top pc ls st := by
  intro p l e s m args below meth c F H locs A hz hH hS hl
  have htab : ∀ x ∈ c.exceptionTable.toList, covers x (pc + 9) = false := by
    obtain ⟨-, -, -, -, -, -, -, -, -, -, -, -, h1⟩ := F
    rw [h1, hhM]
    intro x hx
    cases hx
  exact vx_throwS (names := ["java/lang/RuntimeException", "java/lang/Exception"]) F.1 F.2.1 F.2.2.2.2.2.2.2.1 F.2.2.2.1 x.1 ex_fit (F.ht _ x.2.1) (F.ht _ x.2.2.1) (F.bs.2.1.2.1 i _ hst) (x.words F) x.2.2.2.2 F.old.2.2.1 F.old.2.2.2.1 hS (hl.1.trans F.2.2.1.symm) d0 d3 d4 d7 d10 htab hf hl2 hc hs F.2.2.2.2.2.2.1
    (fun t _ h1 h2 => ⟨⟨h, t.heap.size, hq _ (by omega), rfl, fun a e9 ha => ⟨(hH a e9 ha).1, (hH a e9 ha).2.kept (h2 a (hH.lt ha))⟩⟩, Nat.le_trans hS.1 h1, fun q hq1 hq2 => (h2 q (Nat.lt_of_lt_of_le hq1 hS.1)).trans (hS.2.1 q hq1 hq2)⟩) hS.2.2 hc2 hs2
end Ret
/-- Math -/
theorem r_mmin {idx : Nat} {x y : Int32} (d : decode M.2.1 pc = .ok (.invokestatic idx, 3)) (w1 : Cond.methodLink M.1.cls idx Lib.Math.min.name ∈ big) (w2 : Cond.static Lib.Math.min.name ∈ big) (w3 : Cond.initialized "java/lang/Math" ∈ big) (w4 : Cond.code Lib.Math.min.name Lib.Math.min.code 2 (some .int) ∈ big) (hf : 1 ≤ R.frames) (hl2 : (st.map fun w => w.category).sum + 13 ≤ R.locals) (hc : cells ≤ R.cells) (hs : slots ≤ R.slots)
    (kk : J v M R K t0 cells slots h top (pc + 3) ls (.int (if y < x then y else x) :: st)) : J v M R K t0 cells slots h top pc ls (.int y :: .int x :: st) := by
  intro p l e s m args below meth c F H locs A hz hH hS hl
  exact va_mmin F.1 F.2.1 (F.2.2.1.trans hl.1.symm) F.2.2.2.1 (F.ht _ w1) (F.ht _ w2) (F.ht _ w3) (F.ht _ w4) hf hl2 hc hs d (kk p l e s m args below meth c F H locs A hz hH hS hl)
theorem r_mmax {idx : Nat} {x y : Int32} (d : decode M.2.1 pc = .ok (.invokestatic idx, 3)) (w1 : Cond.methodLink M.1.cls idx Lib.Math.max.name ∈ big) (w2 : Cond.static Lib.Math.max.name ∈ big) (w3 : Cond.initialized "java/lang/Math" ∈ big) (w4 : Cond.code Lib.Math.max.name Lib.Math.max.code 2 (some .int) ∈ big) (hf : 1 ≤ R.frames) (hl2 : (st.map fun w => w.category).sum + 13 ≤ R.locals) (hc : cells ≤ R.cells) (hs : slots ≤ R.slots)
    (kk : J v M R K t0 cells slots h top (pc + 3) ls (.int (if x < y then y else x) :: st)) : J v M R K t0 cells slots h top pc ls (.int y :: .int x :: st) := by
  intro p l e s m args below meth c F H locs A hz hH hS hl
  exact va_mmax F.1 F.2.1 (F.2.2.1.trans hl.1.symm) F.2.2.2.1 (F.ht _ w1) (F.ht _ w2) (F.ht _ w3) (F.ht _ w4) hf hl2 hc hs d (kk p l e s m args below meth c F H locs A hz hH hS hl)
end JC
