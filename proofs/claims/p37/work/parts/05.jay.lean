/-! ===== THE J-LAYER: the machine's judgement W over a heap told as a function (address ↦ cell), for methods told as a tuple ===== -/
abbrev Hp : Type := Nat → Option va_E
def hp (h : Hp) (a : Nat) (e : va_E) : Hp := fun q => if q = a then some e else h q
theorem hp_eq (h : Hp) (a : Nat) (e : va_E) : hp h a e a = some e := if_pos rfl
theorem hp_ne (h : Hp) {a q : Nat} (e : va_E) (n : q ≠ a) : hp h a e q = h q := if_neg n
/-- the run's fixed things: the classes and their slots, the array classes, the first new address, old addresses -/
abbrev Ev : Type := va_G × (Nat → ClassId) × Nat × (Nat → Nat)
def cA (v : Ev) (k : Nat) : ClassId := v.2.1 k
def z0 (v : Ev) : Nat := v.2.2.1
def oA (v : Ev) (k : Nat) : Nat := v.2.2.2 k
def Ar (v : Ev) : Nat → Prop := fun q => z0 v ≤ q
def ob (ci : Nat) (fs : List Value) : va_E := .inr (ci, fs)
def aI (v : Ev) (n : Nat) (f : Nat → Int32) : va_E := .inl (cA v 0, (n, .inl f))
def aJ (v : Ev) (n : Nat) (f : Nat → Int64) : va_E := .inl (cA v 1, (n, .inr (.inl f)))
def aF (v : Ev) (n : Nat) (f : Nat → UInt32) : va_E := .inl (cA v 2, (n, .inr (.inr (.inl f))))
def aB (v : Ev) (n : Nat) (f : Nat → Int32) : va_E := .inl (cA v 3, (n, .inl f))
def aZ (v : Ev) (n : Nat) (f : Nat → Int32) : va_E := .inl (cA v 4, (n, .inl f))
def aQ (v : Ev) (n : Nat) (f : Nat → Option Nat) : va_E := .inl (cA v 6, (n, .inr (.inr (.inr (.inr f)))))
def aG (v : Ev) (n : Nat) (f : Nat → Option Nat) : va_E := .inl (cA v 5, (n, .inr (.inr (.inr (.inr f)))))
def tysE (v : Ev) : List (ClassId × FieldType) := [(cA v 0, .int), (cA v 1, .long), (cA v 2, .float), (cA v 3, .byte), (cA v 4, .boolean), (cA v 5, .object "RandomWalks$Graph"), (cA v 6, .array .int)]
/-- the words that every method has: those of the tables that last -/
def big : List Cond := lw_tbl.filter goodWord
theorem big_of {w : Cond} (h : w ∈ lw_tbl) (g : goodWord w = true) : w ∈ big := List.mem_filter.mpr ⟨h, g⟩
theorem big_in {w : Cond} (h : w ∈ big) : w ∈ lw_tbl := (List.mem_filter.mp h).1
theorem big_good {w : Cond} (h : w ∈ big) : goodWord w = true := (List.mem_filter.mp h).2
theorem big_at (i : Nat) {w : Cond} (h : lw_tbl[i]? = some w) (g : goodWord w = true) : w ∈ big := big_of (List.mem_of_getElem? h) g
/-- the words that don't stand on the tables of one moment, but are kept -/
def nwk : Cond → Bool
  | .fieldLinkNest .. => true
  | .methodLinkNest .. => true
  | .castable .. => true
  | .declares _ => true
  | _ => false
theorem nwk_on {w : Cond} (h : nwk w = true) : w.onTables = true := by
  cases w <;> first | rfl | (simp [nwk] at h)
theorem nwk_warm {w : Cond} (h : nwk w = true) {s U : State} (hW : s.WarmedH U.vm) (hZ : va_Nw w s) : va_Nw w U := by
  cases w <;> first | (simp [nwk] at h; done) | exact va_Nw.warmF hW hZ | exact va_Nw.warmM hW hZ | exact va_Nw.warmC hW hZ | exact va_Nw.warmD hW hZ
/-- the texts: class, place in its pool, text -/
def stTab : List (String × Nat × String) := [("RandomWalks", 98, "the buffer does not hold as many bytes"), ("RandomWalks$Tokens", 61, "walk"), ("RandomWalks$Tokens", 67, "edge"), ("RandomWalks$Tokens", 69, "absorb"), ("RandomWalks$Tokens", 71, "join"), ("RandomWalks$Tokens", 73, "cost"), ("RandomWalks$Tokens", 75, "weight"), ("RandomWalks$Tokens", 77, "from"), ("RandomWalks$Tokens", 79, "to"), ("RandomWalksLaw", 116, "walk "), ("RandomWalksLaw", 124, ";"), ("RandomWalksLaw", 141, "edge "), ("RandomWalksLaw", 146, "absorb "), ("RandomWalksLaw", 148, "cost 3 * to - from + weight / 2;"), ("RandomWalks", 311, "there is no such vertex"), ("RandomWalks", 256, "steps is not 0 to 100"), ("RandomWalks", 320, "the vertex cannot be reached"), ("RandomWalks", 204, "the vertex is not absorbing"), ("RandomWalks", 322, "no absorbing vertex can be reached"), ("RandomWalks", 262, "steps is not 0 to 1000"), ("RandomWalks", 264, "seed is negative"), ("RandomWalks", 266, "what is not 0 to 3")]
/-- the texts whose signs are read -/
def stRead (i : Nat) : Bool := match stTab[i]? with
  | some q => q.1 == "RandomWalks$Tokens" || q.1 == "RandomWalksLaw"
  | none => false
def stText (i : Nat) : List Nat := match stTab[i]? with
  | some q => q.2.2.toList.map Char.toNat
  | none => []
def exC : List String := []
/-- the old cells, which nothing changes: COST_ONE and what it holds, what a throw reads, the texts -/
def Old (v : Ev) (U : State) (H : Heap) : Prop :=
  va_Z "RandomWalks" "COST_ONE" "[I" (.ref (oA v 0)) (Ar v) U H ∧ va_T .int (oA v 0) 1 (fun _ => .int 1) (Ar v) U H ∧
  vx_Zq Bundle.tN "UNASSIGNED_STACK" Bundle.steD (Ar v) U H ∧ vx_Zq Bundle.tN "SUPPRESSED_SENTINEL" Bundle.listD (Ar v) U H ∧
  va_Z "java/lang/String" "COMPACT_STRINGS" "Z" (.int 1) (Ar v) U H ∧ va_Zq "jdk/internal/util/Preconditions" "SIOOBE_FORMATTER" "Ljava/util/function/BiFunction;" (Ar v) U H ∧
  (∀ i : Nat, stRead i = true → va_O "java/lang/String" (oA v (i + 1)) (Ar v) U H ∧ va_OF "java/lang/String" "coder" "B" (.int 0) (oA v (i + 1)) (Ar v) U H ∧ va_OF "java/lang/String" "value" "[B" (.ref (oA v (i + 101))) (oA v (i + 1)) (Ar v) U H ∧ va_T .byte (oA v (i + 101)) (stText i).length (fun j => .int (nI ((stText i).getD j 0))) (Ar v) U H) ∧
  va_Z "java/lang/Integer" "DigitOnes" "[B" (.ref (oA v 99)) (Ar v) U H ∧ va_T .byte (oA v 99) 100 (fun j => .int (nI (48 + j % 10))) (Ar v) U H ∧ va_T .int (oA v 98) (oA v 999) (fun j => .int (nI (oA v (1000 + j)))) (Ar v) U H
theorem Old.moved {v : Ev} {u U : State} {H : Heap} (hvm : u.vm.Alike U.vm) (h : Old v u H) : Old v U H :=
  ⟨va_Z.moved hvm h.1, va_T.moved hvm h.2.1, vx_Zq.moved hvm h.2.2.1, vx_Zq.moved hvm h.2.2.2.1, va_Z.moved hvm h.2.2.2.2.1, va_Zq.moved hvm h.2.2.2.2.2.1,
    fun i hi => ⟨va_O.moved hvm (h.2.2.2.2.2.2.1 i hi).1, va_OF.moved hvm (h.2.2.2.2.2.2.1 i hi).2.1, va_OF.moved hvm (h.2.2.2.2.2.2.1 i hi).2.2.1, va_T.moved hvm (h.2.2.2.2.2.2.1 i hi).2.2.2⟩, va_Z.moved hvm h.2.2.2.2.2.2.2.1, va_T.moved hvm h.2.2.2.2.2.2.2.2.1, va_T.moved hvm h.2.2.2.2.2.2.2.2.2⟩
theorem Old.kept {v : Ev} {U : State} {H H1 : Heap} (h : Old v U H) (hq : ∀ a : Nat, a < H.size → ¬ Ar v a → H1[a]? = H[a]?) : Old v U H1 :=
  ⟨va_Z.kept h.1 hq, va_T.kept h.2.1 hq, vx_Zq.kept h.2.2.1 hq, vx_Zq.kept h.2.2.2.1 hq, va_Z.kept h.2.2.2.2.1 hq, va_Zq.kept h.2.2.2.2.2.1 hq,
    fun i hi => ⟨va_O.kept (h.2.2.2.2.2.2.1 i hi).1 hq, va_OF.kept (h.2.2.2.2.2.2.1 i hi).2.1 hq, va_OF.kept (h.2.2.2.2.2.2.1 i hi).2.2.1 hq, va_T.kept (h.2.2.2.2.2.2.1 i hi).2.2.2 hq⟩, va_Z.kept h.2.2.2.2.2.2.2.1 hq, va_T.kept h.2.2.2.2.2.2.2.2.1 hq, va_T.kept h.2.2.2.2.2.2.2.2.2 hq⟩
/-- arrays of int[] -/
def qAO (U : State) : Prop := (Cond.arrayOver (.array .int)).before #[] U = true
theorem qAO.moved {u U : State} (hvm : u.vm.Alike U.vm) (h : qAO u) : qAO U := arrayOver_alikeB hvm h
/-- what the tables say beside the words that last -/
def Tb2 (v : Ev) (U : State) : Prop :=
  (∀ w ∈ lw_tbl, nwk w = true → va_Nw w U) ∧ (∀ (i : Nat) (q : String × Nat × String), stTab[i]? = some q → vk_R q.1 q.2.1 q.2.2 (oA v (i + 1)) U) ∧
  (∀ a ∈ exC, ∀ b ∈ exC, a ≠ b → va_Nc a b U) ∧ va_AO "RandomWalks$Graph" U ∧ qAO U
theorem Tb2.warm {v : Ev} {s U : State} (hW : s.WarmedH U.vm) (h : Tb2 v s) : Tb2 v U :=
  ⟨fun w hw hk => nwk_warm hk hW (h.1 w hw hk), fun i q hq => vk_R.warm hW (h.2.1 i q hq), fun a ha b hb hab => va_Nc.moved hW.alike (h.2.2.1 a ha b hb hab), va_AO.moved hW.alike h.2.2.2.1, qAO.moved hW.alike h.2.2.2.2⟩
/-- the tables' part -/
def Bs (v : Ev) (U : State) : Prop := va_K v.1 vwCl (tysE v) U ∧ Tb2 v U ∧ Old v U U.heap
/-- the heap's part -/
def Hh (v : Ev) (h : Hp) (H : Heap) : Prop := ∀ (a : Nat) (e : va_E), h a = some e → z0 v ≤ a ∧ va_at v.1 vwCl (a, e) H
def Rp (v : Ev) (h : Hp) (top : Nat) (U : State) : Prop := Bs v U ∧ U.heap.size = top ∧ z0 v ≤ top ∧ Hh v h U.heap
theorem Hh.lt {v : Ev} {h : Hp} {H : Heap} (hh : Hh v h H) {a : Nat} {e : va_E} (ha : h a = some e) : a < H.size := (hh a e ha).2.lt
theorem Hh.set {v : Ev} {h : Hp} {H H1 : Heap} {a : Nat} {e : va_E} (hh : Hh v h H) (ha : z0 v ≤ a) (he : va_at v.1 vwCl (a, e) H1) (oq : ∀ q : Nat, q ≠ a → H1[q]? = H[q]?) : Hh v (hp h a e) H1 := by
  intro q e' hq
  by_cases hqa : q = a
  · subst hqa
    rw [hp_eq] at hq
    cases hq
    exact ⟨ha, he⟩
  · rw [hp_ne h e hqa] at hq
    exact ⟨(hh q e' hq).1, (hh q e' hq).2.kept (oq q hqa)⟩
theorem Hh.new {v : Ev} {h : Hp} {H H1 : Heap} {e : va_E} (hh : Hh v h H) (hz : z0 v ≤ H.size) (he : va_at v.1 vwCl (H.size, e) H1) (oq : ∀ q : Nat, q < H.size → H1[q]? = H[q]?) : Hh v (hp h H.size e) H1 := by
  intro q e' hq
  by_cases hqa : q = H.size
  · subst hqa
    rw [hp_eq] at hq
    cases hq
    exact ⟨hz, he⟩
  · rw [hp_ne h e hqa] at hq
    exact ⟨(hh q e' hq).1, (hh q e' hq).2.kept (oq q (hh.lt hq))⟩
/-- the locals by their places -/
def lsAt (ls : List (Option Value)) (i : Nat) : Option Value := (ls[i]?).getD none
def lvH (A : Array Slot) (n : Nat) (ls : List (Option Value)) : Prop := A.size = n ∧ lv_wf A ∧ ∀ (i : Nat) (w : Value), ls[i]? = some (some w) → A[i]? = some (.val w)
/-- the list of what is known, as the kit's rows take it -/
def lvL : Nat → List (Option Value) → List (Nat × Value)
  | _, [] => []
  | i, none :: t => lvL (i + 1) t
  | i, some w :: t => (i, w) :: lvL (i + 1) t
theorem lvL_mem : ∀ (ls : List (Option Value)) (b i : Nat) (w : Value), (i, w) ∈ lvL b ls ↔ b ≤ i ∧ ls[i - b]? = some (some w)
  | [], b, i, w => by simp [lvL]
  | none :: t, b, i, w => by
    rw [lvL, lvL_mem t (b + 1) i w]
    by_cases h : b = i
    · subst h
      constructor
      · rintro ⟨h1, h2⟩
        omega
      · rintro ⟨h1, h2⟩
        simp at h2
    · constructor
      · rintro ⟨h1, h2⟩
        refine ⟨by omega, ?_⟩
        rw [show i - b = (i - (b + 1)) + 1 by omega, List.getElem?_cons_succ]
        exact h2
      · rintro ⟨h1, h2⟩
        refine ⟨by omega, ?_⟩
        rw [show i - b = (i - (b + 1)) + 1 by omega, List.getElem?_cons_succ] at h2
        exact h2
  | some x :: t, b, i, w => by
    rw [lvL, List.mem_cons, lvL_mem t (b + 1) i w]
    by_cases h : b = i
    · subst h
      constructor
      · rintro (h1 | ⟨h1, h2⟩)
        · cases h1
          simp
        · omega
      · rintro ⟨h1, h2⟩
        simp at h2
        subst h2
        exact Or.inl rfl
    · constructor
      · rintro (h1 | ⟨h1, h2⟩)
        · cases h1
          exact absurd rfl h
        · refine ⟨by omega, ?_⟩
          rw [show i - b = (i - (b + 1)) + 1 by omega, List.getElem?_cons_succ]
          exact h2
      · rintro ⟨h1, h2⟩
        refine Or.inr ⟨by omega, ?_⟩
        rw [show i - b = (i - (b + 1)) + 1 by omega, List.getElem?_cons_succ] at h2
        exact h2
theorem lvH.has {A : Array Slot} {n : Nat} {ls : List (Option Value)} (h : lvH A n ls) : lv_has A n (lvL 0 ls) := by
  refine ⟨h.1, h.2.1, fun q hq => ?_⟩
  obtain ⟨i, w⟩ := q
  exact h.2.2 i w ((lvL_mem ls 0 i w).mp hq).2
theorem lvH.of {A : Array Slot} {n : Nat} {l : List (Nat × Value)} {ls : List (Option Value)} (h : lv_has A n l) (hs : ∀ (i : Nat) (w : Value), ls[i]? = some (some w) → (i, w) ∈ l) : lvH A n ls :=
  ⟨h.1, h.2.1, fun i w hw => h.2.2 (i, w) (hs i w hw)⟩
theorem lvH.at {A : Array Slot} {n : Nat} {ls : List (Option Value)} (h : lvH A n ls) {i : Nat} {w : Value} (hw : ls[i]? = some (some w)) : A[i]? = some (.val w) := h.2.2 i w hw
def isTwo : Option Value → Bool
  | some w => w.category == 2
  | none => false
/-- what lies ahead of a stored local, if it is a long, is gone -/
def lsCut : Nat → List (Option Value) → List (Option Value)
  | 1, x :: t => (if isTwo x then none else x) :: t
  | i + 2, x :: t => x :: lsCut (i + 1) t
  | _, l => l
def ls1 (ls : List (Option Value)) (i : Nat) (w : Value) : List (Option Value) := (lsCut i ls).set i (some w)
def ls2 (ls : List (Option Value)) (i : Nat) (w : Value) : List (Option Value) := ((lsCut i ls).set i (some w)).set (i + 1) none
theorem lsCut_at : ∀ (i : Nat) (ls : List (Option Value)) (j : Nat) (w : Value), (lsCut i ls)[j]? = some (some w) → ls[j]? = some (some w) ∧ (j + 1 = i → w.category ≠ 2)
  | 0, ls, j, w, h => by
    cases ls <;> exact ⟨h, fun q => by omega⟩
  | 1, [], j, w, h => by simp [lsCut] at h
  | 1, x :: t, j, w, h => by
    rw [lsCut] at h
    cases j with
    | zero =>
      simp only [List.getElem?_cons_zero, Option.some.injEq] at h ⊢
      split at h
      · cases h
      · next hx =>
        subst h
        refine ⟨rfl, fun _ hc => hx ?_⟩
        simp [isTwo, hc]
    | succ j => exact ⟨h, fun q => by omega⟩
  | i + 2, [], j, w, h => by simp [lsCut] at h
  | i + 2, x :: t, j, w, h => by
    rw [lsCut] at h
    cases j with
    | zero => exact ⟨h, fun q => by omega⟩
    | succ j =>
      rw [List.getElem?_cons_succ] at h
      obtain ⟨h1, h2⟩ := lsCut_at (i + 1) t j w h
      exact ⟨by rw [List.getElem?_cons_succ]; exact h1, fun q => h2 (by omega)⟩
theorem ls1_mem {ls : List (Option Value)} {i : Nat} {x : Value} (j : Nat) (w : Value) (h : (ls1 ls i x)[j]? = some (some w)) : (j, w) ∈ ((i, x) :: (lvL 0 ls).filter (fun q => !(q.1 == i) && !(q.1 + 1 == i && q.2.category == 2))) := by
  unfold ls1 at h
  by_cases hj : i = j
  · subst hj
    rw [List.getElem?_set] at h
    simp only [if_true] at h
    split at h
    · cases h
      exact List.mem_cons_self
    · cases h
  · rw [List.getElem?_set_ne hj] at h
    obtain ⟨h1, h2⟩ := lsCut_at i ls j w h
    refine List.mem_cons_of_mem _ (List.mem_filter.mpr ⟨(lvL_mem ls 0 j w).mpr ⟨Nat.zero_le _, h1⟩, ?_⟩)
    have e1 : (j == i) = false := by simp; omega
    by_cases hji : j + 1 = i
    · have e2 : (w.category == 2) = false := by simp [h2 hji]
      simp [e1, e2]
    · have e2 : (j + 1 == i) = false := by simp [hji]
      simp [e1, e2]
theorem ls2_mem {ls : List (Option Value)} {i : Nat} {x : Value} (j : Nat) (w : Value) (h : (ls2 ls i x)[j]? = some (some w)) : (j, w) ∈ ((i, x) :: (lvL 0 ls).filter (fun q => !(q.1 == i) && (!(q.1 == i + 1) && !(q.1 + 1 == i && q.2.category == 2)))) := by
  unfold ls2 at h
  by_cases hj2 : i + 1 = j
  · subst hj2
    rw [List.getElem?_set] at h
    simp only [if_true] at h
    split at h <;> cases h
  · rw [List.getElem?_set_ne hj2] at h
    by_cases hj : i = j
    · subst hj
      rw [List.getElem?_set] at h
      simp only [if_true] at h
      split at h
      · cases h
        exact List.mem_cons_self
      · cases h
    · rw [List.getElem?_set_ne hj] at h
      obtain ⟨h1, h2⟩ := lsCut_at i ls j w h
      refine List.mem_cons_of_mem _ (List.mem_filter.mpr ⟨(lvL_mem ls 0 j w).mpr ⟨Nat.zero_le _, h1⟩, ?_⟩)
      have e1 : (j == i) = false := by simp; omega
      have e3 : (j == i + 1) = false := by simp; omega
      by_cases hji : j + 1 = i
      · have e2 : (w.category == 2) = false := by simp [h2 hji]
        simp [e1, e2, e3]
      · have e2 : (j + 1 == i) = false := by simp [hji]
        simp [e1, e2, e3]
/-- a method: name, code, locals, answer, table of handlers -/
abbrev Md : Type := MethodName × ByteArray × Nat × Option FieldType × List (Nat × Nat × Nat × Nat)
def cw (M : Md) : Cond := match M.2.2.2.2 with
  | [] => .code M.1 M.2.1 M.2.2.1 M.2.2.2.1
  | hh => .codeWith M.1 M.2.1 M.2.2.1 M.2.2.2.1 hh
def rmOf (d mc ms : Nat) : Room := { frames := d, cells := mc, slots := ms, locals := 60 * d }
def Fx (v : Ev) (M : Md) (t0 : Nat) (p : Program) (l : Launch) (s : State) (m : MethodId) (args : Array Value) (meth : Method) (c : Code) : Prop :=
  p.tables.exec = Jvm.exec ∧ c.code = M.2.1 ∧ c.maxLocals = M.2.2.1 ∧ s.vm.findClass M.1.cls = some m.cls ∧ (∀ w ∈ big, w.before args s = true) ∧ meth.sig.returnType = M.2.2.2.1 ∧ meth.locks = false ∧ l.stackTraces = false ∧ Bs v s ∧ s.heap.size = t0 ∧ z0 v ≤ t0 ∧ meth.name = M.1.name ∧ c.exceptionTable.toList = tableOf M.2.2.2.2
/-- the judgement: at pc, with locals ls, stack st, heap h up to top -/
def J (v : Ev) (M : Md) (R : Room) (K : List Frame → Array Value → State → State → Prop) (t0 cells slots : Nat) (h : Hp) (top pc : Nat) (ls : List (Option Value)) (st : List Value) : Prop :=
  ∀ (p : Program) (l : Launch) (e : Env) (s : State) (m : MethodId) (args : Array Value) (below : List Frame) (meth : Method) (c : Code), Fx v M t0 p l s m args meth c →
    ∀ (H : Heap) (locs : List Loc) (A : Array Slot), H.size = top → Hh v h H → va_S (Ar v) s.heap H locs → lvH A M.2.2.1 ls →
      W p l e R s m args below meth c H locs cells slots (K below args s) (F0 m pc A st)
def Qc (v : Ev) (Qr : Option Value → Hp → Nat → Prop) : Array Value → State → Outcome → State → Prop := fun _ st oc t =>
  (∃ (r : Option Value) (h' : Hp) (top' : Nat), oc = .returned r ∧ Qr r h' top' ∧ t.heap.size = top' ∧ Hh v h' t.heap) ∧ va_F (Ar v) st t
def XC (v : Ev) (Qx : String → Hp → Nat → Prop) : String → State → State → Prop := fun E st t =>
  (∃ (h' : Hp) (top' : Nat), Qx E h' top' ∧ t.heap.size = top' ∧ Hh v h' t.heap) ∧ va_F (Ar v) st t
def KM (v : Ev) (Qr : Option Value → Hp → Nat → Prop) (Qx : String → Hp → Nat → Prop) (mc ms : Nat) : List Frame → Array Value → State → State → Prop :=
  fun below args s => vx_MQ below (Qc v Qr) (XC v Qx) args s mc ms (Ar v)
/-- a method's contract -/
def Cal (v : Ev) (M : Md) (d mc ms : Nat) (av : List Value) (h : Hp) (top : Nat) (Qr : Option Value → Hp → Nat → Prop) (Qx : String → Hp → Nat → Prop) : Prop :=
  ∀ l : Launch, l.stackTraces = false → vx_Met l M.1 (cw M :: big) (rmOf d mc ms) (va_Pc av (Rp v h top)) (Qc v Qr) (XC v Qx) mc ms (Ar v)
def noX : String → Hp → Nat → Prop := fun _ _ _ => False
/-- the locals at the entry -/
def eL (n : Nat) (av : List Value) : List (Option Value) := (av.flatMap fun w => if w.category = 2 then [some w, none] else [some w]) ++ List.replicate (n - (lg_sl av).length) none
theorem eL_mem : ∀ (av : List Value) (b i : Nat) (w : Value), (av.flatMap fun w => if w.category = 2 then [some w, none] else [some w])[i]? = some (some w) → (b + i, w) ∈ lv_args b av
  | [], b, i, w, h => by simp at h
  | x :: t, b, i, w, h => by
    rw [lv_args]
    rw [List.flatMap_cons] at h
    by_cases hx : x.category = 2
    · rw [if_pos hx] at h ⊢
      match i, h with
      | 0, h => simp at h; subst h; exact List.mem_cons_self
      | 1, h => simp at h
      | i + 2, h =>
        have h2 := eL_mem t (b + 2) i w (by simpa using h)
        rw [show b + (i + 2) = b + 2 + i by omega]
        exact List.mem_cons_of_mem _ h2
    · rw [if_neg hx] at h ⊢
      match i, h with
      | 0, h => simp at h; subst h; exact List.mem_cons_self
      | i + 1, h =>
        have h2 := eL_mem t (b + 1) i w (by simpa using h)
        rw [show b + (i + 1) = b + 1 + i by omega]
        exact List.mem_cons_of_mem _ h2
theorem eL_entry (av : List Value) {n : Nat} (hn : (lg_sl av).length ≤ n) : lvH ((lg_sl av ++ List.replicate (n - (lg_sl av).length) Slot.unset).toArray) n (eL n av) := by
  refine lvH.of (lv_entry av hn) (fun i w hw => ?_)
  unfold eL at hw
  rw [List.getElem?_append] at hw
  split at hw
  · have h1 := eL_mem av 0 i w hw
    rwa [Nat.zero_add] at h1
  · rw [List.getElem?_replicate] at hw
    split at hw <;> simp at hw
theorem Bs.warm {v : Ev} {s t : State} (hW : s.WarmedH t.vm) (h : Bs v s) (hF : va_F (Ar v) s t) : Bs v t :=
  ⟨h.1.moved hW.alike, h.2.1.warm hW, (h.2.2.moved hW.alike).kept fun a h1 h2 => hF.2 a h1 h2⟩
/-- the same tables and heap -/
theorem Bs.same {v : Ev} {s t : State} (hv : t.vm = s.vm) (hh : t.heap = s.heap) (h : Bs v s) : Bs v t :=
  h.warm (by rw [hv]; exact State.WarmedH.refl s) ⟨by rw [hh]; exact Nat.le_refl _, fun q _ _ => by rw [hh]⟩
theorem Rp.blind {v : Ev} {h : Hp} {top : Nat} {av : List Value} : FrameBlind (va_Pc av (Rp v h top)) :=
  fun a U g mk q => ⟨q.1, Bs.same (s := U) rfl rfl q.2.1, q.2.2.1, q.2.2.2.1, q.2.2.2.2⟩
/-- a contract out of the judgement at the entry -/
theorem Cal.ofJ {v : Ev} {M : Md} {d mc ms : Nat} {av : List Value} {h : Hp} {top : Nat} {Qr : Option Value → Hp → Nat → Prop} {Qx : String → Hp → Nat → Prop}
    (hpl : plainName M.1.cls = true) (hhh : M.2.2.2.2 = []) (hn : (lg_sl av).length ≤ M.2.2.1) (k : z0 v ≤ top → J v M (rmOf d mc ms) (KM v Qr Qx mc ms) top 0 0 h top 0 (eL M.2.2.1 av) []) : Cal v M d mc ms av h top Qr Qx := by
  intro l hl
  refine vx_ofW (ret := M.2.2.2.1) (cc := M.2.1) (maxL := M.2.2.1) (ws' := big) hpl (by unfold cw; rw [hhh]) ?_
  intro p e s m args below meth c s₁ B hml htb hP
  obtain ⟨rfl, hB, hz, hz0, hH⟩ := hP
  have hts : ∀ w ∈ big, w.before av.toArray s = true := fun w hw => atoms_spec (ws := cw M :: big) B.pre w (List.mem_cons_of_mem _ hw)
  have htab : c.exceptionTable.toList = tableOf M.2.2.2.2 := by
    rw [hhh]
    have : c.exceptionTable.toList = [] := by
      cases hc : c.exceptionTable.toList with
      | nil => rfl
      | cons x t => exact (htb x (by rw [hc]; exact List.mem_cons_self)).elim
    rw [this]
    rfl
  have hF : Fx v M top p l s m av.toArray meth c := ⟨B.exec, B.bytes, hml, findClass_of_methodNamed B.named, hts, B.returns, B.notSynchronized, hl, hB, hz, hz0, (name_of_methodNamed B.named B.method).1, htab⟩
  rw [lg_entry_eq]
  exact k hz0 p l e s m av.toArray below meth c hF s.heap [] _ hz hH va_S.rf (eL_entry av hn)
theorem Cal.ofJH {v : Ev} {M : Md} {d mc ms : Nat} {av : List Value} {h : Hp} {top : Nat} {Qr : Option Value → Hp → Nat → Prop} {Qx : String → Hp → Nat → Prop}
    (hpl : plainName M.1.cls = true) {x : Nat × Nat × Nat × Nat} {hh : List (Nat × Nat × Nat × Nat)} (hhh : M.2.2.2.2 = x :: hh) (hn : (lg_sl av).length ≤ M.2.2.1) (k : z0 v ≤ top → J v M (rmOf d mc ms) (KM v Qr Qx mc ms) top 0 0 h top 0 (eL M.2.2.1 av) []) : Cal v M d mc ms av h top Qr Qx := by
  intro l hl
  have hcw : cw M = Cond.codeWith M.1 M.2.1 M.2.2.1 M.2.2.2.1 M.2.2.2.2 := by unfold cw; rw [hhh]
  refine vx_ofWH (ret := M.2.2.2.1) (cc := M.2.1) (maxL := M.2.2.1) (ws' := big) (hh := M.2.2.2.2) hpl (by rw [hcw]) ?_
  intro p e s m args below meth c s₁ B hml hP
  obtain ⟨rfl, hB, hz, hz0, hH⟩ := hP
  have hts : ∀ w ∈ big, w.before av.toArray s = true := fun w hw => atoms_spec (ws := cw M :: big) B.pre w (List.mem_cons_of_mem _ hw)
  have htab : c.exceptionTable.toList = tableOf M.2.2.2.2 := vx_table (x := M.1) (y := M.1) B (by rw [← hcw]; exact atoms_spec (ws := cw M :: big) B.pre _ List.mem_cons_self)
  have hF : Fx v M top p l s m av.toArray meth c := ⟨B.exec, B.bytes, hml, findClass_of_methodNamed B.named, hts, B.returns, B.notSynchronized, hl, hB, hz, hz0, (name_of_methodNamed B.named B.method).1, htab⟩
  rw [lg_entry_eq]
  exact k hz0 p l e s m av.toArray below meth c hF s.heap [] _ hz hH va_S.rf (eL_entry av hn)
