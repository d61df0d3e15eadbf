/-! THE CLAIM OUT OF ONE WALK OF THE LAW'S BODY. Your part is whole_start (and what it stands on); all else here is the same for every law, but numbers. -/
def R_law : String := "RandomWalksLaw"
def lw_P (b : Addr) (xs : List Int32) (args : Array Value) (s : State) : Prop := args = #[.ref b] ∧ s.IntsAt b xs ∧ xs.length ≤ 3072 ∧ (Jvm.Cond.and given_1 narrow_1).before args s = true
/-- what a walk over the start with the record d0 says of its end, said of the start itself -/
theorem lw_closed {s t : State} {o : Outcome} {d0 : Drawn} {L : List Loc} {k n : Nat} (hd0 : s.drawn.sameBut d0 lw_cs) (hv : ∃ v, o = .returned v) (hW : (s.setDrawn d0).WarmedH t.vm) (hs : (s.setDrawn d0).sameButNew ({ t with vm := s.vm } : State) L k n) : State.butDraws s t lw_cs (fun t1 => Framed s o t1 L k n) := by
  have h2 : t.drawn = d0 := congrArg State.drawn hs.1
  refine ⟨⟨hv, hW, State.sameButNew.setDrawn hs s.drawn⟩, ?_, by decide⟩
  rw [h2]
  exact hd0
def lw_Q (_ : Array Value) (s : State) (o : Outcome) (t : State) : Prop := o = .returned (some (.int 1)) ∧ State.butDraws s t lw_cs (fun t1 => Framed s o t1 [] 601024 7293034)
def lw_Z (below : List Frame) (a : Array Value) (s : State) : State → Prop := fun t => ∃ o, t.status = .running ∧ Ended t below o ∧ lw_Q a s o t
/-- the law's own end, with 1 on the stack, nothing written that was there before, its room as the claim has it; d0: the record of draws at this point (at the entry s.drawn: begin with 'refine W.base ?_' and 'have hd0 := Drawn.sameBut.refl s.drawn lw_cs') -/
theorem lw_ret {p : Program} {l : Launch} {e : Env} {s : State} {m : MethodId} {below : List Frame} {meth : Method} {c : Code} {b : Nat} {d0 : Drawn} (hd0 : s.drawn.sameBut d0 lw_cs) (hx : p.tables.exec = Jvm.exec) (hb : c.code = code) (hr : meth.sig.returnType = ret) (hlocks : meth.locks = false) {pc : Nat} {H : Heap} {ls : Array Slot} (hdg : decode code pc = .ok (.ireturn, 1)) : W p l e room_1 (s.setDrawn d0) m #[Value.ref b] below meth c H [] 601024 7293034 (lw_Z below #[Value.ref b] s) (F0 m pc ls [.int 1]) := by
  intro T hT X
  obtain ⟨fs, hret, hrun, hended, hW, hframe⟩ := X.leave (v := some (.int 1)) (hlocks := hlocks) (fun h => by rw [hr] at h; cases h)
  have hmeth' : T.vm.method? m = some meth := X.method'
  refine ⟨T.setFrames fs, ?_, .returned (some (.int 1)), hrun, hended, rfl, lw_closed hd0 ⟨_, rfl⟩ hW hframe⟩
  jvm_step X.here [X.here.top, hx, hb, hdg, hmeth', hr, ret, narrow_b1]
  (try refine ⟨rfl, ?_⟩); (try refine ⟨rfl, ?_⟩)
  first | (intro acts; rw [hret _ acts rfl rfl rfl]) | rw [hret _ _ rfl rfl rfl]
  exact Steps.refl _
/-- what holds at the law's entry: the machine, the code, the tables' words (any of lw_tbl by 'hts w (by decide +kernel)'), the script of L ints xs at the cell b, what the Statement gives of the start (any of its parts by flat_of_before) -/
def lw_At (p : Program) (s : State) (m : MethodId) (meth : Method) (c : Code) (b L : Nat) (xs : Nat → Int32) : Prop :=
  p.tables.exec = Jvm.exec ∧ c.code = code ∧ meth.sig.returnType = ret ∧ c.maxLocals = 9 ∧ s.vm.findClass R_law = some m.cls ∧ (∀ w ∈ lw_tbl, w.before #[Value.ref b] s = true) ∧ va_X b L xs s s.heap ∧ b < s.heap.size ∧ meth.locks = false ∧ (Jvm.Cond.and given_1 narrow_1).before #[Value.ref b] s = true ∧ meth.name = yL_law.name ∧ c.exceptionTable.toList = []
/-! ===== the law's own judgement ===== -/
abbrev mL_law : Md := (yL_law, cL_law, 9, (some .boolean), [])
/-- what is to be shown where the script lies at b -/
def lwQ2 (b L : Nat) (xs : Nat → Int32) (K0 : List Frame → Array Value → State → State → Prop) : List Frame → Array Value → State → State → Prop := fun below args s t => (args = #[Value.ref b] ∧ va_X b L xs s s.heap) → K0 below args s t
abbrev lwS (b x i : Nat) : List (Option Value) := [some (.ref b), some (.ref x), some (.ref (x + 96)), some (.ref (x + 110)), some (.ref (x + 111)), some (.int (nI i)), none, none, none]
def lwK (v : Ev) (b L : Nat) (xs : Nat → Int32) (x i cells slots : Nat) : Prop := ∀ (h' : Hp) (top' : Nat) (Z' : CS) (S' : MS), Inv v h' top' x Z' S' → J v mL_law room_1 (lwQ2 b L xs lw_Z) (z0 v) (cells + 1) (slots + 600) h' top' 2157 (lwS b x i) []
theorem nI_z3 : ∀ t, t ≤ 3 → nI t = 0 → t = 0 := by
  intro t h z
  rcases (show t = 0 ∨ t = 1 ∨ t = 2 ∨ t = 3 by omega) with rfl | rfl | rfl | rfl
  · rfl
  · exact absurd z (by decide)
  · exact absurd z (by decide)
  · exact absurd z (by decide)
section
variable {v : Ev} {M : Md} {R : Room} {K : List Frame → Array Value → State → State → Prop} {t0 cells slots : Nat} {h : Hp} {top pc : Nat} {ls : List (Option Value)} {st : List Value}
theorem r_wide {k n : Nat} (h1 : cells ≤ k) (h2 : slots ≤ n) (kk : J v M R K t0 k n h top pc ls st) : J v M R K t0 cells slots h top pc ls st := by
  intro p l e s m args below meth c F H locs A hz hH hS hl
  exact W.widen h1 h2 (kk p l e s m args below meth c F H locs A hz hH hS hl)
theorem r_sld {b L i : Nat} {xs : Nat → Int32} {x : Int32} (d : decode M.2.1 pc = .ok (.iaload, 1)) (hb : b < z0 v) (hx : x = nI i) (hi : i < L) (hL : L ≤ 3072) (kk : J v M R (lwQ2 b L xs K) t0 cells slots h top (pc + 1) ls (.int (xs i) :: st)) : J v M R (lwQ2 b L xs K) t0 cells slots h top pc ls (.int x :: .ref b :: st) := by
  intro p l e s m args below meth c F H locs A hz hH hS hl
  by_cases hX : va_X b L xs s s.heap
  · have k := kk p l e s m args below meth c F H locs A hz hH hS hl
    obtain ⟨q1, q2⟩ := in_nI hx hi (by omega)
    exact va_sld F.1 F.2.1 hX (Nat.lt_of_lt_of_le hb F.z) (Nat.not_le.mpr hb) hS q1 d (by rw [q2]; exact k)
  · intro T hT X
    exact ⟨_, Steps.refl _, fun z => absurd z.2 hX⟩
theorem r_slen {b L : Nat} {xs : Nat → Int32} (d : decode M.2.1 pc = .ok (.arraylength, 1)) (hb : b < z0 v) (kk : J v M R (lwQ2 b L xs K) t0 cells slots h top (pc + 1) ls (.int (nI L) :: st)) : J v M R (lwQ2 b L xs K) t0 cells slots h top pc ls (.ref b :: st) := by
  intro p l e s m args below meth c F H locs A hz hH hS hl
  by_cases hX : va_X b L xs s s.heap
  · have k := kk p l e s m args below meth c F H locs A hz hH hS hl
    exact va_slen F.1 F.2.1 hX (Nat.lt_of_lt_of_le hb F.z) (Nat.not_le.mpr hb) hS d k
  · intro T hT X
    exact ⟨_, Steps.refl _, fun z => absurd z.2 hX⟩
theorem r_bool {w : Int32} (d0 : decode M.2.1 pc = .ok (.ifCond .eq 7, 3)) (d1 : decode M.2.1 (pc + 3) = .ok (.iconst 1, 1)) (d2 : decode M.2.1 (pc + 4) = .ok (.goto 4, 3)) (d3 : decode M.2.1 (pc + 7) = .ok (.iconst 0, 1)) (kk : J v M R K t0 cells slots h top (pc + 8) ls (.int (nI (if w = 0 then 0 else 1)) :: st)) : J v M R K t0 cells slots h top pc ls (.int w :: st) := by
  refine r_if_eq (pc + 7) d0 (by omega) (fun c => ?_) (fun c => ?_)
  · rw [if_pos c] at kk
    exact r_iconst (pc := pc + 7) (w := nI 0) d3 (by decide) kk
  · rw [if_neg c] at kk
    exact r_iconst (pc := pc + 3) (w := nI 1) d1 (by decide) (r_goto (pc := pc + 4) (pc + 8) d2 (by omega) kk)
/-- equal longs compared -/
theorem r_lq {a b : Int64} {off : Int} (tgt : Nat) (d1 : decode M.2.1 pc = .ok (.lcmp, 1)) (d2 : decode M.2.1 (pc + 1) = .ok (.ifCond .eq off, 3)) (ht : ((pc + 1 : Nat) : Int) + off = (tgt : Int)) (e : a = b) (kk : J v M R K t0 cells slots h top tgt ls st) : J v M R K t0 cells slots h top pc ls (.long b :: .long a :: st) := by
  subst e
  obtain ⟨z, hz, rfl⟩ := l_int a
  exact r_lc_eq tgt d1 d2 ht hz hz (fun _ => kk) (fun c => absurd rfl c)
/-- the numbers of a call are forgotten -/
theorem r_drop {a0 a1 a2 a3 a4 a5 b6 b7 b8 : Option Value} (kk : J v M R K t0 cells slots h top pc [a0, a1, a2, a3, a4, a5, none, none, none] st) : J v M R K t0 cells slots h top pc [a0, a1, a2, a3, a4, a5, b6, b7, b8] st := by
  refine r_sub _ (fun i w hw => ?_) kk
  match i, hw with
  | 0, hw => exact hw
  | 1, hw => exact hw
  | 2, hw => exact hw
  | 3, hw => exact hw
  | 4, hw => exact hw
  | 5, hw => exact hw
  | 6, hw => cases hw
  | 7, hw => cases hw
  | 8, hw => cases hw
  | n + 9, hw => cases hw
/-- the law's end -/
theorem r_lend {b L : Nat} {xs : Nat → Int32} (d : decode cL_law pc = .ok (.ireturn, 1)) (hc : cells ≤ 601024) (hs : slots ≤ 7293034) : J v mL_law room_1 (lwQ2 b L xs lw_Z) (z0 v) cells slots h top pc ls [.int (nI 1)] := by
  intro p l e s m args below meth c F H locs A hz hH hS hl
  by_cases hP : args = #[Value.ref b] ∧ va_X b L xs s s.heap
  · obtain ⟨rfl, -⟩ := hP
    have hsz : s.heap.size = z0 v := F.2.2.2.2.2.2.2.2.2.1
    refine W.widen hc hs (va_forget (fun q hq => by have := hS.2.2 q hq; rw [hsz]; exact this) ?_)
    have k := lw_ret (p := p) (l := l) (e := e) (s := s) (m := m) (below := below) (meth := meth) (c := c) (b := b) (H := H) (ls := A) (Drawn.sameBut.refl s.drawn lw_cs) F.1 F.2.1 F.2.2.2.2.2.1 F.2.2.2.2.2.2.1 d
    intro T hT X
    obtain ⟨t, a1, b1⟩ := k T hT X
    exact ⟨t, a1, fun _ => b1⟩
  · intro T hT X
    exact ⟨_, Steps.refl _, fun z => absurd z hP⟩
end
section
variable {v : Ev} {h : Hp} {top x : Nat} {Z : CS} {S : MS}
theorem Inv.mo (I : Inv v h top x Z S) : h (x + 96) = some (moE (x + 96) S.1) := (congrFun I.2.1 (x + 96)).symm.trans mH_0
theorem c_thr (I : Inv v h top x Z S) : Cal v mX11_thrown 1 0 0 [.ref (x + 96)] h top (pR (.int (nI S.thr)) h top) noX := by
  have k := c_mThr (v := v) (h := h) (top := top) (m := x + 96) (S := S)
  rw [I.2.1] at k
  exact k
end

