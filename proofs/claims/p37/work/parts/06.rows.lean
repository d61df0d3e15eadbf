/-! ===== J rows: instructions without the heap (written by wip/p37/gen_rows.py) ===== -/
section JR
variable {v : Ev} {M : Md} {R : Room} {K : List Frame → Array Value → State → State → Prop} {t0 cells slots : Nat} {h : Hp} {top pc : Nat} {ls : List (Option Value)} {st : List Value}
theorem r_iconst {n : Int} {w : Int32} (d : decode M.2.1 pc = .ok (.iconst n, 1)) (hv : Int32.ofInt n = w) (k : J v M R K t0 cells slots h top (pc + 1) ls (.int w :: st)) : J v M R K t0 cells slots h top pc ls (st) := by
  intro p l e s m args below meth c F H locs A hz hH hS hl
  exact lv_iconst F.1 F.2.1 d hv (k p l e s m args below meth c F H locs A hz hH hS hl)
theorem r_bipush {n : Int} {w : Int32} (d : decode M.2.1 pc = .ok (.bipush n, 2)) (hv : (Int8.ofInt n).toInt32 = w) (k : J v M R K t0 cells slots h top (pc + 2) ls (.int w :: st)) : J v M R K t0 cells slots h top pc ls (st) := by
  intro p l e s m args below meth c F H locs A hz hH hS hl
  exact lv_bipush F.1 F.2.1 d hv (k p l e s m args below meth c F H locs A hz hH hS hl)
theorem r_sipush {n : Int} {w : Int32} (d : decode M.2.1 pc = .ok (.sipush n, 3)) (hv : (Int16.ofInt n).toInt32 = w) (k : J v M R K t0 cells slots h top (pc + 3) ls (.int w :: st)) : J v M R K t0 cells slots h top pc ls (st) := by
  intro p l e s m args below meth c F H locs A hz hH hS hl
  exact lv_sipush F.1 F.2.1 d hv (k p l e s m args below meth c F H locs A hz hH hS hl)
theorem r_lconst {n : Fin 2} {w : Int64} (d : decode M.2.1 pc = .ok (.lconst n, 1)) (hv : Int64.ofNat (n : Nat) = w) (k : J v M R K t0 cells slots h top (pc + 1) ls (.long w :: st)) : J v M R K t0 cells slots h top pc ls (st) := by
  intro p l e s m args below meth c F H locs A hz hH hS hl
  exact lv_lconst F.1 F.2.1 d hv (k p l e s m args below meth c F H locs A hz hH hS hl)
theorem r_fconst0  (d : decode M.2.1 pc = .ok (.fconst 0, 1))  (k : J v M R K t0 cells slots h top (pc + 1) ls (.float FP.fconst0 :: st)) : J v M R K t0 cells slots h top pc ls (st) := by
  intro p l e s m args below meth c F H locs A hz hH hS hl
  exact lv_fconst0 F.1 F.2.1 d  (k p l e s m args below meth c F H locs A hz hH hS hl)
theorem r_fconst1  (d : decode M.2.1 pc = .ok (.fconst 1, 1))  (k : J v M R K t0 cells slots h top (pc + 1) ls (.float FP.fconst1 :: st)) : J v M R K t0 cells slots h top pc ls (st) := by
  intro p l e s m args below meth c F H locs A hz hH hS hl
  exact lv_fconst1 F.1 F.2.1 d  (k p l e s m args below meth c F H locs A hz hH hS hl)
theorem r_iload_n {k0 : Fin 4} {i : Nat} {x : Int32} (d : decode M.2.1 pc = .ok (.iload_n k0, 1)) (hi : (k0 : Nat) = i) (hx : ls[i]? = some (some (.int x))) (k : J v M R K t0 cells slots h top (pc + 1) ls (.int x :: st)) : J v M R K t0 cells slots h top pc ls (st) := by
  intro p l e s m args below meth c F H locs A hz hH hS hl
  exact lv_iload_n F.1 F.2.1 d hi (hl.at hx) (k p l e s m args below meth c F H locs A hz hH hS hl)
theorem r_iload {i : Nat} {x : Int32} (d : decode M.2.1 pc = .ok (.iload i, 2)) (hx : ls[i]? = some (some (.int x))) (k : J v M R K t0 cells slots h top (pc + 2) ls (.int x :: st)) : J v M R K t0 cells slots h top pc ls (st) := by
  intro p l e s m args below meth c F H locs A hz hH hS hl
  exact lv_iload F.1 F.2.1 d (hl.at hx) (k p l e s m args below meth c F H locs A hz hH hS hl)
theorem r_istore_n {k0 : Fin 4} {i : Nat} {x : Int32} (d : decode M.2.1 pc = .ok (.istore_n k0, 1)) (hi : (k0 : Nat) = i) (hn : i < M.2.2.1) (k : J v M R K t0 cells slots h top (pc + 1) (ls1 ls i (.int x)) st) : J v M R K t0 cells slots h top pc ls (.int x :: st) := by
  intro p l e s m args below meth c F H locs A hz hH hS hl
  exact lv_istore_n F.1 F.2.1 d hi hl.has hn rfl (fun A1 h1 => k p l e s m args below meth c F H locs A1 hz hH hS (lvH.of h1 (fun j w hw => ls1_mem j w hw)))
theorem r_istore {i : Nat} {x : Int32} (d : decode M.2.1 pc = .ok (.istore i, 2)) (hn : i < M.2.2.1) (k : J v M R K t0 cells slots h top (pc + 2) (ls1 ls i (.int x)) st) : J v M R K t0 cells slots h top pc ls (.int x :: st) := by
  intro p l e s m args below meth c F H locs A hz hH hS hl
  exact lv_istore F.1 F.2.1 d hl.has hn rfl (fun A1 h1 => k p l e s m args below meth c F H locs A1 hz hH hS (lvH.of h1 (fun j w hw => ls1_mem j w hw)))
theorem r_lload_n {k0 : Fin 4} {i : Nat} {x : Int64} (d : decode M.2.1 pc = .ok (.lload_n k0, 1)) (hi : (k0 : Nat) = i) (hx : ls[i]? = some (some (.long x))) (k : J v M R K t0 cells slots h top (pc + 1) ls (.long x :: st)) : J v M R K t0 cells slots h top pc ls (st) := by
  intro p l e s m args below meth c F H locs A hz hH hS hl
  exact lv_lload_n F.1 F.2.1 d hi (hl.at hx) (k p l e s m args below meth c F H locs A hz hH hS hl)
theorem r_lload {i : Nat} {x : Int64} (d : decode M.2.1 pc = .ok (.lload i, 2)) (hx : ls[i]? = some (some (.long x))) (k : J v M R K t0 cells slots h top (pc + 2) ls (.long x :: st)) : J v M R K t0 cells slots h top pc ls (st) := by
  intro p l e s m args below meth c F H locs A hz hH hS hl
  exact lv_lload F.1 F.2.1 d (hl.at hx) (k p l e s m args below meth c F H locs A hz hH hS hl)
theorem r_lstore_n {k0 : Fin 4} {i : Nat} {x : Int64} (d : decode M.2.1 pc = .ok (.lstore_n k0, 1)) (hi : (k0 : Nat) = i) (hn : i + 1 < M.2.2.1) (k : J v M R K t0 cells slots h top (pc + 1) (ls2 ls i (.long x)) st) : J v M R K t0 cells slots h top pc ls (.long x :: st) := by
  intro p l e s m args below meth c F H locs A hz hH hS hl
  exact lv_lstore_n F.1 F.2.1 d hi hl.has hn rfl (fun A1 h1 => k p l e s m args below meth c F H locs A1 hz hH hS (lvH.of h1 (fun j w hw => ls2_mem j w hw)))
theorem r_lstore {i : Nat} {x : Int64} (d : decode M.2.1 pc = .ok (.lstore i, 2)) (hn : i + 1 < M.2.2.1) (k : J v M R K t0 cells slots h top (pc + 2) (ls2 ls i (.long x)) st) : J v M R K t0 cells slots h top pc ls (.long x :: st) := by
  intro p l e s m args below meth c F H locs A hz hH hS hl
  exact lv_lstore F.1 F.2.1 d hl.has hn rfl (fun A1 h1 => k p l e s m args below meth c F H locs A1 hz hH hS (lvH.of h1 (fun j w hw => ls2_mem j w hw)))
theorem r_aload_n {k0 : Fin 4} {i : Nat} {x : Nat} (d : decode M.2.1 pc = .ok (.aload_n k0, 1)) (hi : (k0 : Nat) = i) (hx : ls[i]? = some (some (.ref x))) (k : J v M R K t0 cells slots h top (pc + 1) ls (.ref x :: st)) : J v M R K t0 cells slots h top pc ls (st) := by
  intro p l e s m args below meth c F H locs A hz hH hS hl
  exact lv_aload_n F.1 F.2.1 d hi (hl.at hx) (k p l e s m args below meth c F H locs A hz hH hS hl)
theorem r_aload {i : Nat} {x : Nat} (d : decode M.2.1 pc = .ok (.aload i, 2)) (hx : ls[i]? = some (some (.ref x))) (k : J v M R K t0 cells slots h top (pc + 2) ls (.ref x :: st)) : J v M R K t0 cells slots h top pc ls (st) := by
  intro p l e s m args below meth c F H locs A hz hH hS hl
  exact lv_aload F.1 F.2.1 d (hl.at hx) (k p l e s m args below meth c F H locs A hz hH hS hl)
theorem r_astore_n {k0 : Fin 4} {i : Nat} {x : Nat} (d : decode M.2.1 pc = .ok (.astore_n k0, 1)) (hi : (k0 : Nat) = i) (hn : i < M.2.2.1) (k : J v M R K t0 cells slots h top (pc + 1) (ls1 ls i (.ref x)) st) : J v M R K t0 cells slots h top pc ls (.ref x :: st) := by
  intro p l e s m args below meth c F H locs A hz hH hS hl
  exact lv_astore_n F.1 F.2.1 d hi hl.has hn rfl (fun A1 h1 => k p l e s m args below meth c F H locs A1 hz hH hS (lvH.of h1 (fun j w hw => ls1_mem j w hw)))
theorem r_astore {i : Nat} {x : Nat} (d : decode M.2.1 pc = .ok (.astore i, 2)) (hn : i < M.2.2.1) (k : J v M R K t0 cells slots h top (pc + 2) (ls1 ls i (.ref x)) st) : J v M R K t0 cells slots h top pc ls (.ref x :: st) := by
  intro p l e s m args below meth c F H locs A hz hH hS hl
  exact lv_astore F.1 F.2.1 d hl.has hn rfl (fun A1 h1 => k p l e s m args below meth c F H locs A1 hz hH hS (lvH.of h1 (fun j w hw => ls1_mem j w hw)))
theorem r_fload_n {k0 : Fin 4} {i : Nat} {x : UInt32} (d : decode M.2.1 pc = .ok (.fload_n k0, 1)) (hi : (k0 : Nat) = i) (hx : ls[i]? = some (some (.float x))) (k : J v M R K t0 cells slots h top (pc + 1) ls (.float x :: st)) : J v M R K t0 cells slots h top pc ls (st) := by
  intro p l e s m args below meth c F H locs A hz hH hS hl
  exact lv_fload_n F.1 F.2.1 d hi (hl.at hx) (k p l e s m args below meth c F H locs A hz hH hS hl)
theorem r_fload {i : Nat} {x : UInt32} (d : decode M.2.1 pc = .ok (.fload i, 2)) (hx : ls[i]? = some (some (.float x))) (k : J v M R K t0 cells slots h top (pc + 2) ls (.float x :: st)) : J v M R K t0 cells slots h top pc ls (st) := by
  intro p l e s m args below meth c F H locs A hz hH hS hl
  exact lv_fload F.1 F.2.1 d (hl.at hx) (k p l e s m args below meth c F H locs A hz hH hS hl)
theorem r_fstore_n {k0 : Fin 4} {i : Nat} {x : UInt32} (d : decode M.2.1 pc = .ok (.fstore_n k0, 1)) (hi : (k0 : Nat) = i) (hn : i < M.2.2.1) (k : J v M R K t0 cells slots h top (pc + 1) (ls1 ls i (.float x)) st) : J v M R K t0 cells slots h top pc ls (.float x :: st) := by
  intro p l e s m args below meth c F H locs A hz hH hS hl
  exact lv_fstore_n F.1 F.2.1 d hi hl.has hn rfl (fun A1 h1 => k p l e s m args below meth c F H locs A1 hz hH hS (lvH.of h1 (fun j w hw => ls1_mem j w hw)))
theorem r_fstore {i : Nat} {x : UInt32} (d : decode M.2.1 pc = .ok (.fstore i, 2)) (hn : i < M.2.2.1) (k : J v M R K t0 cells slots h top (pc + 2) (ls1 ls i (.float x)) st) : J v M R K t0 cells slots h top pc ls (.float x :: st) := by
  intro p l e s m args below meth c F H locs A hz hH hS hl
  exact lv_fstore F.1 F.2.1 d hl.has hn rfl (fun A1 h1 => k p l e s m args below meth c F H locs A1 hz hH hS (lvH.of h1 (fun j w hw => ls1_mem j w hw)))
theorem r_dload_n {k0 : Fin 4} {i : Nat} {x : UInt64} (d : decode M.2.1 pc = .ok (.dload_n k0, 1)) (hi : (k0 : Nat) = i) (hx : ls[i]? = some (some (.double x))) (k : J v M R K t0 cells slots h top (pc + 1) ls (.double x :: st)) : J v M R K t0 cells slots h top pc ls (st) := by
  intro p l e s m args below meth c F H locs A hz hH hS hl
  exact lv_dload_n F.1 F.2.1 d hi (hl.at hx) (k p l e s m args below meth c F H locs A hz hH hS hl)
theorem r_dload {i : Nat} {x : UInt64} (d : decode M.2.1 pc = .ok (.dload i, 2)) (hx : ls[i]? = some (some (.double x))) (k : J v M R K t0 cells slots h top (pc + 2) ls (.double x :: st)) : J v M R K t0 cells slots h top pc ls (st) := by
  intro p l e s m args below meth c F H locs A hz hH hS hl
  exact lv_dload F.1 F.2.1 d (hl.at hx) (k p l e s m args below meth c F H locs A hz hH hS hl)
theorem r_dstore_n {k0 : Fin 4} {i : Nat} {x : UInt64} (d : decode M.2.1 pc = .ok (.dstore_n k0, 1)) (hi : (k0 : Nat) = i) (hn : i + 1 < M.2.2.1) (k : J v M R K t0 cells slots h top (pc + 1) (ls2 ls i (.double x)) st) : J v M R K t0 cells slots h top pc ls (.double x :: st) := by
  intro p l e s m args below meth c F H locs A hz hH hS hl
  exact lv_dstore_n F.1 F.2.1 d hi hl.has hn rfl (fun A1 h1 => k p l e s m args below meth c F H locs A1 hz hH hS (lvH.of h1 (fun j w hw => ls2_mem j w hw)))
theorem r_dstore {i : Nat} {x : UInt64} (d : decode M.2.1 pc = .ok (.dstore i, 2)) (hn : i + 1 < M.2.2.1) (k : J v M R K t0 cells slots h top (pc + 2) (ls2 ls i (.double x)) st) : J v M R K t0 cells slots h top pc ls (.double x :: st) := by
  intro p l e s m args below meth c F H locs A hz hH hS hl
  exact lv_dstore F.1 F.2.1 d hl.has hn rfl (fun A1 h1 => k p l e s m args below meth c F H locs A1 hz hH hS (lvH.of h1 (fun j w hw => ls2_mem j w hw)))
theorem r_iinc {i : Nat} {n : Int} {x y : Int32} (d : decode M.2.1 pc = .ok (.iinc i n, 3)) (hx : ls[i]? = some (some (.int x))) (hv : x + Int32.ofInt n = y) (hn : i < M.2.2.1) (k : J v M R K t0 cells slots h top (pc + 3) (ls1 ls i (.int y)) st) : J v M R K t0 cells slots h top pc ls st := by
  intro p l e s m args below meth c F H locs A hz hH hS hl
  obtain ⟨k9, hk9⟩ := List.getElem?_of_mem ((lvL_mem ls 0 i _).mpr ⟨Nat.zero_le _, hx⟩)
  exact lv_iinc F.1 F.2.1 d hl.has hk9 hv hn rfl (fun A1 h1 => k p l e s m args below meth c F H locs A1 hz hH hS (lvH.of h1 (fun j w hw => ls1_mem j w hw)))
theorem nI_inc (u : Nat) : nI u + Int32.ofInt 1 = nI (u + 1) := (nI_1 u)
theorem r_iincN {i u : Nat} (d : decode M.2.1 pc = .ok (.iinc i 1, 3)) (hx : ls[i]? = some (some (.int (nI u)))) (hn : i < M.2.2.1) (k : J v M R K t0 cells slots h top (pc + 3) (ls1 ls i (.int (nI (u + 1)))) st) : J v M R K t0 cells slots h top pc ls st := r_iinc d hx (nI_inc u) hn k
theorem r_iadd {x y : Int32} (d : decode M.2.1 pc = .ok (.iadd, 1))  (k : J v M R K t0 cells slots h top (pc + 1) ls (.int (x + y) :: st)) : J v M R K t0 cells slots h top pc ls (.int y :: .int x :: st) := by
  intro p l e s m args below meth c F H locs A hz hH hS hl
  exact lv_iadd F.1 F.2.1 d  (k p l e s m args below meth c F H locs A hz hH hS hl)
theorem r_isub {x y : Int32} (d : decode M.2.1 pc = .ok (.isub, 1))  (k : J v M R K t0 cells slots h top (pc + 1) ls (.int (x - y) :: st)) : J v M R K t0 cells slots h top pc ls (.int y :: .int x :: st) := by
  intro p l e s m args below meth c F H locs A hz hH hS hl
  exact lv_isub F.1 F.2.1 d  (k p l e s m args below meth c F H locs A hz hH hS hl)
theorem r_imul {x y : Int32} (d : decode M.2.1 pc = .ok (.imul, 1))  (k : J v M R K t0 cells slots h top (pc + 1) ls (.int (x * y) :: st)) : J v M R K t0 cells slots h top pc ls (.int y :: .int x :: st) := by
  intro p l e s m args below meth c F H locs A hz hH hS hl
  exact lv_imul F.1 F.2.1 d  (k p l e s m args below meth c F H locs A hz hH hS hl)
theorem r_iand {x y : Int32} (d : decode M.2.1 pc = .ok (.iand, 1))  (k : J v M R K t0 cells slots h top (pc + 1) ls (.int (x &&& y) :: st)) : J v M R K t0 cells slots h top pc ls (.int y :: .int x :: st) := by
  intro p l e s m args below meth c F H locs A hz hH hS hl
  exact lv_iand F.1 F.2.1 d  (k p l e s m args below meth c F H locs A hz hH hS hl)
theorem r_ior {x y : Int32} (d : decode M.2.1 pc = .ok (.ior, 1))  (k : J v M R K t0 cells slots h top (pc + 1) ls (.int (x ||| y) :: st)) : J v M R K t0 cells slots h top pc ls (.int y :: .int x :: st) := by
  intro p l e s m args below meth c F H locs A hz hH hS hl
  exact lv_ior F.1 F.2.1 d  (k p l e s m args below meth c F H locs A hz hH hS hl)
theorem r_ixor {x y : Int32} (d : decode M.2.1 pc = .ok (.ixor, 1))  (k : J v M R K t0 cells slots h top (pc + 1) ls (.int (x ^^^ y) :: st)) : J v M R K t0 cells slots h top pc ls (.int y :: .int x :: st) := by
  intro p l e s m args below meth c F H locs A hz hH hS hl
  exact lv_ixor F.1 F.2.1 d  (k p l e s m args below meth c F H locs A hz hH hS hl)
theorem r_ishl {x y : Int32} (d : decode M.2.1 pc = .ok (.ishl, 1))  (k : J v M R K t0 cells slots h top (pc + 1) ls (.int (x <<< (y &&& 31)) :: st)) : J v M R K t0 cells slots h top pc ls (.int y :: .int x :: st) := by
  intro p l e s m args below meth c F H locs A hz hH hS hl
  exact lv_ishl F.1 F.2.1 d  (k p l e s m args below meth c F H locs A hz hH hS hl)
theorem r_ishr {x y : Int32} (d : decode M.2.1 pc = .ok (.ishr, 1))  (k : J v M R K t0 cells slots h top (pc + 1) ls (.int (x >>> (y &&& 31)) :: st)) : J v M R K t0 cells slots h top pc ls (.int y :: .int x :: st) := by
  intro p l e s m args below meth c F H locs A hz hH hS hl
  exact lv_ishr F.1 F.2.1 d  (k p l e s m args below meth c F H locs A hz hH hS hl)
theorem r_idiv {x y : Int32} (d : decode M.2.1 pc = .ok (.idiv, 1)) (hne : ¬ y = 0) (k : J v M R K t0 cells slots h top (pc + 1) ls (.int (x / y) :: st)) : J v M R K t0 cells slots h top pc ls (.int y :: .int x :: st) := by
  intro p l e s m args below meth c F H locs A hz hH hS hl
  exact lv_idiv F.1 F.2.1 d hne (k p l e s m args below meth c F H locs A hz hH hS hl)
theorem r_irem {x y : Int32} (d : decode M.2.1 pc = .ok (.irem, 1)) (hne : ¬ y = 0) (k : J v M R K t0 cells slots h top (pc + 1) ls (.int (x - x / y * y) :: st)) : J v M R K t0 cells slots h top pc ls (.int y :: .int x :: st) := by
  intro p l e s m args below meth c F H locs A hz hH hS hl
  exact lv_irem F.1 F.2.1 d hne (k p l e s m args below meth c F H locs A hz hH hS hl)
theorem r_ladd {x y : Int64} (d : decode M.2.1 pc = .ok (.ladd, 1))  (k : J v M R K t0 cells slots h top (pc + 1) ls (.long (x + y) :: st)) : J v M R K t0 cells slots h top pc ls (.long y :: .long x :: st) := by
  intro p l e s m args below meth c F H locs A hz hH hS hl
  exact lv_ladd F.1 F.2.1 d  (k p l e s m args below meth c F H locs A hz hH hS hl)
theorem r_lsub {x y : Int64} (d : decode M.2.1 pc = .ok (.lsub, 1))  (k : J v M R K t0 cells slots h top (pc + 1) ls (.long (x - y) :: st)) : J v M R K t0 cells slots h top pc ls (.long y :: .long x :: st) := by
  intro p l e s m args below meth c F H locs A hz hH hS hl
  exact lv_lsub F.1 F.2.1 d  (k p l e s m args below meth c F H locs A hz hH hS hl)
theorem r_lmul {x y : Int64} (d : decode M.2.1 pc = .ok (.lmul, 1))  (k : J v M R K t0 cells slots h top (pc + 1) ls (.long (x * y) :: st)) : J v M R K t0 cells slots h top pc ls (.long y :: .long x :: st) := by
  intro p l e s m args below meth c F H locs A hz hH hS hl
  exact lv_lmul F.1 F.2.1 d  (k p l e s m args below meth c F H locs A hz hH hS hl)
theorem r_ldiv {x y : Int64} (d : decode M.2.1 pc = .ok (.ldiv, 1)) (hne : ¬ y = 0) (k : J v M R K t0 cells slots h top (pc + 1) ls (.long (x / y) :: st)) : J v M R K t0 cells slots h top pc ls (.long y :: .long x :: st) := by
  intro p l e s m args below meth c F H locs A hz hH hS hl
  exact lv_ldiv F.1 F.2.1 d hne (k p l e s m args below meth c F H locs A hz hH hS hl)
theorem r_lrem {x y : Int64} (d : decode M.2.1 pc = .ok (.lrem, 1)) (hne : ¬ y = 0) (k : J v M R K t0 cells slots h top (pc + 1) ls (.long (x - x / y * y) :: st)) : J v M R K t0 cells slots h top pc ls (.long y :: .long x :: st) := by
  intro p l e s m args below meth c F H locs A hz hH hS hl
  exact lv_lrem F.1 F.2.1 d hne (k p l e s m args below meth c F H locs A hz hH hS hl)
theorem r_iaddN {a b : Nat} (d : decode M.2.1 pc = .ok (.iadd, 1))  (k : J v M R K t0 cells slots h top (pc + 1) ls (.int (nI (a + b)) :: st)) : J v M R K t0 cells slots h top pc ls (.int (nI b) :: .int (nI a) :: st) := by
  intro p l e s m args below meth c F H locs A hz hH hS hl
  exact lv_iadd F.1 F.2.1 d (by rw [nI_add]; exact k p l e s m args below meth c F H locs A hz hH hS hl)
theorem r_imulN {a b : Nat} (d : decode M.2.1 pc = .ok (.imul, 1))  (k : J v M R K t0 cells slots h top (pc + 1) ls (.int (nI (a * b)) :: st)) : J v M R K t0 cells slots h top pc ls (.int (nI b) :: .int (nI a) :: st) := by
  intro p l e s m args below meth c F H locs A hz hH hS hl
  exact lv_imul F.1 F.2.1 d (by rw [pk_mul]; exact k p l e s m args below meth c F H locs A hz hH hS hl)
theorem r_ineg {x : Int32} (d : decode M.2.1 pc = .ok (.ineg, 1))  (k : J v M R K t0 cells slots h top (pc + 1) ls (.int (-x) :: st)) : J v M R K t0 cells slots h top pc ls (.int x :: st) := by
  intro p l e s m args below meth c F H locs A hz hH hS hl
  exact lv_ineg F.1 F.2.1 d  (k p l e s m args below meth c F H locs A hz hH hS hl)
theorem r_lneg {x : Int64} (d : decode M.2.1 pc = .ok (.lneg, 1))  (k : J v M R K t0 cells slots h top (pc + 1) ls (.long (-x) :: st)) : J v M R K t0 cells slots h top pc ls (.long x :: st) := by
  intro p l e s m args below meth c F H locs A hz hH hS hl
  exact lv_lneg F.1 F.2.1 d  (k p l e s m args below meth c F H locs A hz hH hS hl)
theorem r_i2l {x : Int32} (d : decode M.2.1 pc = .ok (.i2l, 1))  (k : J v M R K t0 cells slots h top (pc + 1) ls (.long x.toInt64 :: st)) : J v M R K t0 cells slots h top pc ls (.int x :: st) := by
  intro p l e s m args below meth c F H locs A hz hH hS hl
  exact lv_i2l F.1 F.2.1 d rfl (k p l e s m args below meth c F H locs A hz hH hS hl)
theorem r_l2i {x : Int64} (d : decode M.2.1 pc = .ok (.l2i, 1))  (k : J v M R K t0 cells slots h top (pc + 1) ls (.int x.toInt32 :: st)) : J v M R K t0 cells slots h top pc ls (.long x :: st) := by
  intro p l e s m args below meth c F H locs A hz hH hS hl
  exact lv_l2i F.1 F.2.1 d rfl (k p l e s m args below meth c F H locs A hz hH hS hl)
theorem r_i2b {x : Int32} (d : decode M.2.1 pc = .ok (.i2b, 1))  (k : J v M R K t0 cells slots h top (pc + 1) ls (.int x.toInt8.toInt32 :: st)) : J v M R K t0 cells slots h top pc ls (.int x :: st) := by
  intro p l e s m args below meth c F H locs A hz hH hS hl
  exact lv_i2b F.1 F.2.1 d rfl (k p l e s m args below meth c F H locs A hz hH hS hl)
theorem r_i2c {x : Int32} (d : decode M.2.1 pc = .ok (.i2c, 1))  (k : J v M R K t0 cells slots h top (pc + 1) ls (.int (x.toUInt32 % 65536).toInt32 :: st)) : J v M R K t0 cells slots h top pc ls (.int x :: st) := by
  intro p l e s m args below meth c F H locs A hz hH hS hl
  exact lv_i2c F.1 F.2.1 d rfl (k p l e s m args below meth c F H locs A hz hH hS hl)
theorem r_i2f {x : Int32} (d : decode M.2.1 pc = .ok (.i2f, 1))  (k : J v M R K t0 cells slots h top (pc + 1) ls (.float (FP.i2f x) :: st)) : J v M R K t0 cells slots h top pc ls (.int x :: st) := by
  intro p l e s m args below meth c F H locs A hz hH hS hl
  exact lv_i2f F.1 F.2.1 d  (k p l e s m args below meth c F H locs A hz hH hS hl)
theorem r_l2f {x : Int64} (d : decode M.2.1 pc = .ok (.l2f, 1))  (k : J v M R K t0 cells slots h top (pc + 1) ls (.float (FP.l2f x) :: st)) : J v M R K t0 cells slots h top pc ls (.long x :: st) := by
  intro p l e s m args below meth c F H locs A hz hH hS hl
  exact lv_l2f F.1 F.2.1 d  (k p l e s m args below meth c F H locs A hz hH hS hl)
theorem r_fadd {x y : UInt32} (d : decode M.2.1 pc = .ok (.fadd, 1)) (hne : vf_n32 (FP.fadd x y)) (k : J v M R K t0 cells slots h top (pc + 1) ls (.float (FP.fadd x y) :: st)) : J v M R K t0 cells slots h top pc ls (.float y :: .float x :: st) := by
  intro p l e s m args below meth c F H locs A hz hH hS hl
  exact lv_fadd F.1 F.2.1 d hne (k p l e s m args below meth c F H locs A hz hH hS hl)
theorem r_fmul {x y : UInt32} (d : decode M.2.1 pc = .ok (.fmul, 1)) (hne : vf_n32 (FP.fmul x y)) (k : J v M R K t0 cells slots h top (pc + 1) ls (.float (FP.fmul x y) :: st)) : J v M R K t0 cells slots h top pc ls (.float y :: .float x :: st) := by
  intro p l e s m args below meth c F H locs A hz hH hS hl
  exact lv_fmul F.1 F.2.1 d hne (k p l e s m args below meth c F H locs A hz hH hS hl)
theorem r_fdiv {x y : UInt32} (d : decode M.2.1 pc = .ok (.fdiv, 1)) (hne : vf_n32 (FP.fdiv x y)) (k : J v M R K t0 cells slots h top (pc + 1) ls (.float (FP.fdiv x y) :: st)) : J v M R K t0 cells slots h top pc ls (.float y :: .float x :: st) := by
  intro p l e s m args below meth c F H locs A hz hH hS hl
  exact lv_fdiv F.1 F.2.1 d hne (k p l e s m args below meth c F H locs A hz hH hS hl)
theorem r_f2d {x : UInt32} (d : decode M.2.1 pc = .ok (.f2d, 1)) (hne : vf_n64 (FP.f2d x)) (k : J v M R K t0 cells slots h top (pc + 1) ls (.double (FP.f2d x) :: st)) : J v M R K t0 cells slots h top pc ls (.float x :: st) := by
  intro p l e s m args below meth c F H locs A hz hH hS hl
  exact lv_f2d F.1 F.2.1 d hne (k p l e s m args below meth c F H locs A hz hH hS hl)
theorem r_lcmp {x y : Int64} (d : decode M.2.1 pc = .ok (.lcmp, 1))  (k : J v M R K t0 cells slots h top (pc + 1) ls (.int (lg_cmp x y) :: st)) : J v M R K t0 cells slots h top pc ls (.long y :: .long x :: st) := by
  intro p l e s m args below meth c F H locs A hz hH hS hl
  exact W.lcmp F.1 F.2.1 d  (k p l e s m args below meth c F H locs A hz hH hS hl)
theorem r_fcmp {x y : UInt32} {op : CmpOp} (d : decode M.2.1 pc = .ok (.fcmp op, 1))  (k : J v M R K t0 cells slots h top (pc + 1) ls (.int (Op.cmpValue (FP.fcmp x y) op) :: st)) : J v M R K t0 cells slots h top pc ls (.float y :: .float x :: st) := by
  intro p l e s m args below meth c F H locs A hz hH hS hl
  exact lv_fcmp F.1 F.2.1 d  (k p l e s m args below meth c F H locs A hz hH hS hl)
theorem r_dcmp {x y : UInt64} {op : CmpOp} (d : decode M.2.1 pc = .ok (.dcmp op, 1))  (k : J v M R K t0 cells slots h top (pc + 1) ls (.int (Op.cmpValue (FP.dcmp x y) op) :: st)) : J v M R K t0 cells slots h top pc ls (.double y :: .double x :: st) := by
  intro p l e s m args below meth c F H locs A hz hH hS hl
  exact lv_dcmp F.1 F.2.1 d  (k p l e s m args below meth c F H locs A hz hH hS hl)
theorem r_dup {x : Value} (d : decode M.2.1 pc = .ok (.dup, 1)) (hx : x.category = 1) (k : J v M R K t0 cells slots h top (pc + 1) ls (x :: x :: st)) : J v M R K t0 cells slots h top pc ls (x :: st) := by
  intro p l e s m args below meth c F H locs A hz hH hS hl
  exact lv_dup F.1 F.2.1 d hx (k p l e s m args below meth c F H locs A hz hH hS hl)
theorem r_pop {x : Value} (d : decode M.2.1 pc = .ok (.pop, 1)) (hx : x.category = 1) (k : J v M R K t0 cells slots h top (pc + 1) ls (st)) : J v M R K t0 cells slots h top pc ls (x :: st) := by
  intro p l e s m args below meth c F H locs A hz hH hS hl
  exact lv_pop F.1 F.2.1 d hx (k p l e s m args below meth c F H locs A hz hH hS hl)
theorem r_dup2_11 {x y : Value} (d : decode M.2.1 pc = .ok (.dup2, 1)) (hx : x.category = 1) (hy : y.category = 1) (k : J v M R K t0 cells slots h top (pc + 1) ls (x :: y :: x :: y :: st)) : J v M R K t0 cells slots h top pc ls (x :: y :: st) := by
  intro p l e s m args below meth c F H locs A hz hH hS hl
  exact lv_dup2_11 F.1 F.2.1 d hx hy (k p l e s m args below meth c F H locs A hz hH hS hl)
theorem r_dup2_2 {x : Value} (d : decode M.2.1 pc = .ok (.dup2, 1)) (hx : x.category = 2) (k : J v M R K t0 cells slots h top (pc + 1) ls (x :: x :: st)) : J v M R K t0 cells slots h top pc ls (x :: st) := by
  intro p l e s m args below meth c F H locs A hz hH hS hl
  exact lv_dup2_2 F.1 F.2.1 d hx (k p l e s m args below meth c F H locs A hz hH hS hl)
theorem r_dup_x1 {x y : Value} (d : decode M.2.1 pc = .ok (.dup_x1, 1)) (hx : x.category = 1) (hy : y.category = 1) (k : J v M R K t0 cells slots h top (pc + 1) ls (x :: y :: x :: st)) : J v M R K t0 cells slots h top pc ls (x :: y :: st) := by
  intro p l e s m args below meth c F H locs A hz hH hS hl
  exact lv_dup_x1 F.1 F.2.1 d hx hy (k p l e s m args below meth c F H locs A hz hH hS hl)
theorem r_if_eq {x : Int32} {off : Int} (tgt : Nat) (d : decode M.2.1 pc = .ok (.ifCond .eq off, 3)) (ht : (pc : Int) + off = (tgt : Int)) (kt : x = 0 → J v M R K t0 cells slots h top tgt ls st) (kf : ¬ x = 0 → J v M R K t0 cells slots h top (pc + 3) ls st) : J v M R K t0 cells slots h top pc ls (.int x :: st) := by
  intro p l e s m args below meth c F H locs A hz hH hS hl
  exact lv_if_eq F.1 F.2.1 d ht (fun q => kt q p l e s m args below meth c F H locs A hz hH hS hl) (fun q => kf q p l e s m args below meth c F H locs A hz hH hS hl)
theorem r_if_ne {x : Int32} {off : Int} (tgt : Nat) (d : decode M.2.1 pc = .ok (.ifCond .ne off, 3)) (ht : (pc : Int) + off = (tgt : Int)) (kt : ¬ x = 0 → J v M R K t0 cells slots h top tgt ls st) (kf : x = 0 → J v M R K t0 cells slots h top (pc + 3) ls st) : J v M R K t0 cells slots h top pc ls (.int x :: st) := by
  intro p l e s m args below meth c F H locs A hz hH hS hl
  exact lv_if_ne F.1 F.2.1 d ht (fun q => kt q p l e s m args below meth c F H locs A hz hH hS hl) (fun q => kf q p l e s m args below meth c F H locs A hz hH hS hl)
theorem r_if_lt {x : Int32} {off : Int} (tgt : Nat) (d : decode M.2.1 pc = .ok (.ifCond .lt off, 3)) (ht : (pc : Int) + off = (tgt : Int)) (kt : x < 0 → J v M R K t0 cells slots h top tgt ls st) (kf : ¬ x < 0 → J v M R K t0 cells slots h top (pc + 3) ls st) : J v M R K t0 cells slots h top pc ls (.int x :: st) := by
  intro p l e s m args below meth c F H locs A hz hH hS hl
  exact lv_if_lt F.1 F.2.1 d ht (fun q => kt q p l e s m args below meth c F H locs A hz hH hS hl) (fun q => kf q p l e s m args below meth c F H locs A hz hH hS hl)
theorem r_if_ge {x : Int32} {off : Int} (tgt : Nat) (d : decode M.2.1 pc = .ok (.ifCond .ge off, 3)) (ht : (pc : Int) + off = (tgt : Int)) (kt : 0 ≤ x → J v M R K t0 cells slots h top tgt ls st) (kf : ¬ 0 ≤ x → J v M R K t0 cells slots h top (pc + 3) ls st) : J v M R K t0 cells slots h top pc ls (.int x :: st) := by
  intro p l e s m args below meth c F H locs A hz hH hS hl
  exact lv_if_ge F.1 F.2.1 d ht (fun q => kt q p l e s m args below meth c F H locs A hz hH hS hl) (fun q => kf q p l e s m args below meth c F H locs A hz hH hS hl)
theorem r_if_gt {x : Int32} {off : Int} (tgt : Nat) (d : decode M.2.1 pc = .ok (.ifCond .gt off, 3)) (ht : (pc : Int) + off = (tgt : Int)) (kt : 0 < x → J v M R K t0 cells slots h top tgt ls st) (kf : ¬ 0 < x → J v M R K t0 cells slots h top (pc + 3) ls st) : J v M R K t0 cells slots h top pc ls (.int x :: st) := by
  intro p l e s m args below meth c F H locs A hz hH hS hl
  exact lv_if_gt F.1 F.2.1 d ht (fun q => kt q p l e s m args below meth c F H locs A hz hH hS hl) (fun q => kf q p l e s m args below meth c F H locs A hz hH hS hl)
theorem r_if_le {x : Int32} {off : Int} (tgt : Nat) (d : decode M.2.1 pc = .ok (.ifCond .le off, 3)) (ht : (pc : Int) + off = (tgt : Int)) (kt : x ≤ 0 → J v M R K t0 cells slots h top tgt ls st) (kf : ¬ x ≤ 0 → J v M R K t0 cells slots h top (pc + 3) ls st) : J v M R K t0 cells slots h top pc ls (.int x :: st) := by
  intro p l e s m args below meth c F H locs A hz hH hS hl
  exact lv_if_le F.1 F.2.1 d ht (fun q => kt q p l e s m args below meth c F H locs A hz hH hS hl) (fun q => kf q p l e s m args below meth c F H locs A hz hH hS hl)
theorem r_icmp_eq {x y : Int32} {off : Int} (tgt : Nat) (d : decode M.2.1 pc = .ok (.if_icmp .eq off, 3)) (ht : (pc : Int) + off = (tgt : Int)) (kt : x = y → J v M R K t0 cells slots h top tgt ls st) (kf : ¬ x = y → J v M R K t0 cells slots h top (pc + 3) ls st) : J v M R K t0 cells slots h top pc ls (.int y :: .int x :: st) := by
  intro p l e s m args below meth c F H locs A hz hH hS hl
  exact lv_icmp_eq F.1 F.2.1 d ht (fun q => kt q p l e s m args below meth c F H locs A hz hH hS hl) (fun q => kf q p l e s m args below meth c F H locs A hz hH hS hl)
theorem r_icmp_ne {x y : Int32} {off : Int} (tgt : Nat) (d : decode M.2.1 pc = .ok (.if_icmp .ne off, 3)) (ht : (pc : Int) + off = (tgt : Int)) (kt : ¬ x = y → J v M R K t0 cells slots h top tgt ls st) (kf : x = y → J v M R K t0 cells slots h top (pc + 3) ls st) : J v M R K t0 cells slots h top pc ls (.int y :: .int x :: st) := by
  intro p l e s m args below meth c F H locs A hz hH hS hl
  exact lv_icmp_ne F.1 F.2.1 d ht (fun q => kt q p l e s m args below meth c F H locs A hz hH hS hl) (fun q => kf q p l e s m args below meth c F H locs A hz hH hS hl)
theorem r_icmp_lt {x y : Int32} {off : Int} (tgt : Nat) (d : decode M.2.1 pc = .ok (.if_icmp .lt off, 3)) (ht : (pc : Int) + off = (tgt : Int)) (kt : x < y → J v M R K t0 cells slots h top tgt ls st) (kf : ¬ x < y → J v M R K t0 cells slots h top (pc + 3) ls st) : J v M R K t0 cells slots h top pc ls (.int y :: .int x :: st) := by
  intro p l e s m args below meth c F H locs A hz hH hS hl
  exact lv_icmp_lt F.1 F.2.1 d ht (fun q => kt q p l e s m args below meth c F H locs A hz hH hS hl) (fun q => kf q p l e s m args below meth c F H locs A hz hH hS hl)
theorem r_icmp_ge {x y : Int32} {off : Int} (tgt : Nat) (d : decode M.2.1 pc = .ok (.if_icmp .ge off, 3)) (ht : (pc : Int) + off = (tgt : Int)) (kt : y ≤ x → J v M R K t0 cells slots h top tgt ls st) (kf : ¬ y ≤ x → J v M R K t0 cells slots h top (pc + 3) ls st) : J v M R K t0 cells slots h top pc ls (.int y :: .int x :: st) := by
  intro p l e s m args below meth c F H locs A hz hH hS hl
  exact lv_icmp_ge F.1 F.2.1 d ht (fun q => kt q p l e s m args below meth c F H locs A hz hH hS hl) (fun q => kf q p l e s m args below meth c F H locs A hz hH hS hl)
theorem r_icmp_gt {x y : Int32} {off : Int} (tgt : Nat) (d : decode M.2.1 pc = .ok (.if_icmp .gt off, 3)) (ht : (pc : Int) + off = (tgt : Int)) (kt : y < x → J v M R K t0 cells slots h top tgt ls st) (kf : ¬ y < x → J v M R K t0 cells slots h top (pc + 3) ls st) : J v M R K t0 cells slots h top pc ls (.int y :: .int x :: st) := by
  intro p l e s m args below meth c F H locs A hz hH hS hl
  exact lv_icmp_gt F.1 F.2.1 d ht (fun q => kt q p l e s m args below meth c F H locs A hz hH hS hl) (fun q => kf q p l e s m args below meth c F H locs A hz hH hS hl)
theorem r_icmp_le {x y : Int32} {off : Int} (tgt : Nat) (d : decode M.2.1 pc = .ok (.if_icmp .le off, 3)) (ht : (pc : Int) + off = (tgt : Int)) (kt : x ≤ y → J v M R K t0 cells slots h top tgt ls st) (kf : ¬ x ≤ y → J v M R K t0 cells slots h top (pc + 3) ls st) : J v M R K t0 cells slots h top pc ls (.int y :: .int x :: st) := by
  intro p l e s m args below meth c F H locs A hz hH hS hl
  exact lv_icmp_le F.1 F.2.1 d ht (fun q => kt q p l e s m args below meth c F H locs A hz hH hS hl) (fun q => kf q p l e s m args below meth c F H locs A hz hH hS hl)
theorem nI_lt_iff {a b : Nat} (ha : a < 2147483648) (hb : b < 2147483648) : nI a < nI b ↔ a < b := nI_ltI ha hb
theorem nI_le_iff {a b : Nat} (ha : a < 2147483648) (hb : b < 2147483648) : nI a ≤ nI b ↔ a ≤ b := nI_leI ha hb
theorem nI_eq_iff {a b : Nat} (ha : a < 2147483648) (hb : b < 2147483648) : nI a = nI b ↔ a = b := nI_eq ha hb
theorem r_icmp_eqN {a b : Nat} {off : Int} (tgt : Nat) (d : decode M.2.1 pc = .ok (.if_icmp .eq off, 3)) (ht : (pc : Int) + off = (tgt : Int)) (ha : a < 2147483648) (hb : b < 2147483648) (kt : a = b → J v M R K t0 cells slots h top tgt ls st) (kf : a ≠ b → J v M R K t0 cells slots h top (pc + 3) ls st) : J v M R K t0 cells slots h top pc ls (.int (nI b) :: .int (nI a) :: st) := by
  exact r_icmp_eq tgt d ht (fun q => kt ((nI_eq_iff ha hb).mp q)) (fun q => kf (fun z => q ((nI_eq_iff ha hb).mpr z)))
theorem r_icmp_neN {a b : Nat} {off : Int} (tgt : Nat) (d : decode M.2.1 pc = .ok (.if_icmp .ne off, 3)) (ht : (pc : Int) + off = (tgt : Int)) (ha : a < 2147483648) (hb : b < 2147483648) (kt : a ≠ b → J v M R K t0 cells slots h top tgt ls st) (kf : a = b → J v M R K t0 cells slots h top (pc + 3) ls st) : J v M R K t0 cells slots h top pc ls (.int (nI b) :: .int (nI a) :: st) := by
  exact r_icmp_ne tgt d ht (fun q => kt (fun z => q ((nI_eq_iff ha hb).mpr z))) (fun q => kf ((nI_eq_iff ha hb).mp (by simpa using q)))
theorem r_icmp_ltN {a b : Nat} {off : Int} (tgt : Nat) (d : decode M.2.1 pc = .ok (.if_icmp .lt off, 3)) (ht : (pc : Int) + off = (tgt : Int)) (ha : a < 2147483648) (hb : b < 2147483648) (kt : a < b → J v M R K t0 cells slots h top tgt ls st) (kf : b ≤ a → J v M R K t0 cells slots h top (pc + 3) ls st) : J v M R K t0 cells slots h top pc ls (.int (nI b) :: .int (nI a) :: st) := by
  exact r_icmp_lt tgt d ht (fun q => kt ((nI_lt_iff ha hb).mp q)) (fun q => kf (Nat.not_lt.mp (fun z => q ((nI_lt_iff ha hb).mpr z))))
theorem r_icmp_geN {a b : Nat} {off : Int} (tgt : Nat) (d : decode M.2.1 pc = .ok (.if_icmp .ge off, 3)) (ht : (pc : Int) + off = (tgt : Int)) (ha : a < 2147483648) (hb : b < 2147483648) (kt : b ≤ a → J v M R K t0 cells slots h top tgt ls st) (kf : a < b → J v M R K t0 cells slots h top (pc + 3) ls st) : J v M R K t0 cells slots h top pc ls (.int (nI b) :: .int (nI a) :: st) := by
  exact r_icmp_ge tgt d ht (fun q => kt ((nI_le_iff hb ha).mp q)) (fun q => kf (Nat.not_le.mp (fun z => q ((nI_le_iff hb ha).mpr z))))
theorem r_icmp_gtN {a b : Nat} {off : Int} (tgt : Nat) (d : decode M.2.1 pc = .ok (.if_icmp .gt off, 3)) (ht : (pc : Int) + off = (tgt : Int)) (ha : a < 2147483648) (hb : b < 2147483648) (kt : b < a → J v M R K t0 cells slots h top tgt ls st) (kf : a ≤ b → J v M R K t0 cells slots h top (pc + 3) ls st) : J v M R K t0 cells slots h top pc ls (.int (nI b) :: .int (nI a) :: st) := by
  exact r_icmp_gt tgt d ht (fun q => kt ((nI_lt_iff hb ha).mp q)) (fun q => kf (Nat.not_lt.mp (fun z => q ((nI_lt_iff hb ha).mpr z))))
theorem r_icmp_leN {a b : Nat} {off : Int} (tgt : Nat) (d : decode M.2.1 pc = .ok (.if_icmp .le off, 3)) (ht : (pc : Int) + off = (tgt : Int)) (ha : a < 2147483648) (hb : b < 2147483648) (kt : a ≤ b → J v M R K t0 cells slots h top tgt ls st) (kf : b < a → J v M R K t0 cells slots h top (pc + 3) ls st) : J v M R K t0 cells slots h top pc ls (.int (nI b) :: .int (nI a) :: st) := by
  exact r_icmp_le tgt d ht (fun q => kt ((nI_le_iff ha hb).mp q)) (fun q => kf (Nat.not_le.mp (fun z => q ((nI_le_iff ha hb).mpr z))))
theorem r_goto {off : Int} (tgt : Nat) (d : decode M.2.1 pc = .ok (.goto off, 3)) (ht : (pc : Int) + off = (tgt : Int)) (k : J v M R K t0 cells slots h top tgt ls st) : J v M R K t0 cells slots h top pc ls st := by
  intro p l e s m args below meth c F H locs A hz hH hS hl
  exact lv_goto F.1 F.2.1 d ht (k p l e s m args below meth c F H locs A hz hH hS hl)
theorem r_swOut {dflt lo hi : Int} {offs : Array Int} {len : Nat} {x : Int32} (tgt : Nat) (d : decode M.2.1 pc = .ok (.tableswitch dflt lo hi offs, len)) (hx : x.toInt < lo ∨ hi < x.toInt) (ht : (pc : Int) + dflt = (tgt : Int)) (k : J v M R K t0 cells slots h top tgt ls st) : J v M R K t0 cells slots h top pc ls (.int x :: st) := by
  intro p l e s m args below meth c F H locs A hz hH hS hl
  exact lv_tableOut F.1 F.2.1 d hx ht (k p l e s m args below meth c F H locs A hz hH hS hl)
theorem r_swIn {dflt lo hi : Int} {offs : Array Int} {len : Nat} {x : Int32} {off : Int} (tgt : Nat) (d : decode M.2.1 pc = .ok (.tableswitch dflt lo hi offs, len)) (h1 : ¬ x.toInt < lo) (h2 : ¬ hi < x.toInt) (ho : offs[(x.toInt - lo).toNat]? = some off) (ht : (pc : Int) + off = (tgt : Int)) (k : J v M R K t0 cells slots h top tgt ls st) : J v M R K t0 cells slots h top pc ls (.int x :: st) := by
  intro p l e s m args below meth c F H locs A hz hH hS hl
  exact lv_tableIn F.1 F.2.1 d h1 h2 ho ht (k p l e s m args below meth c F H locs A hz hH hS hl)
theorem r_ldcI {idx : Nat} {x : Int32} (d : decode M.2.1 pc = .ok (.ldc idx, 2)) (hw : Cond.constant M.1.cls idx x ∈ big) (k : J v M R K t0 cells slots h top (pc + 2) ls (.int x :: st)) : J v M R K t0 cells slots h top pc ls st := by
  intro p l e s m args below meth c F H locs A hz hH hS hl
  exact lv_ldc F.1 F.2.1 F.2.2.2.1 (F.2.2.2.2.1 _ hw) d (k p l e s m args below meth c F H locs A hz hH hS hl)
theorem r_ldcwI {idx : Nat} {x : Int32} (d : decode M.2.1 pc = .ok (.ldc_w idx, 3)) (hw : Cond.constant M.1.cls idx x ∈ big) (k : J v M R K t0 cells slots h top (pc + 3) ls (.int x :: st)) : J v M R K t0 cells slots h top pc ls st := by
  intro p l e s m args below meth c F H locs A hz hH hS hl
  exact lv_ldcw F.1 F.2.1 F.2.2.2.1 (F.2.2.2.2.1 _ hw) d (k p l e s m args below meth c F H locs A hz hH hS hl)
theorem r_ldc2 {idx : Nat} {x : Int64} (d : decode M.2.1 pc = .ok (.ldc2_w idx, 3)) (hw : Cond.constantLong M.1.cls idx x ∈ big) (k : J v M R K t0 cells slots h top (pc + 3) ls (.long x :: st)) : J v M R K t0 cells slots h top pc ls st := by
  intro p l e s m args below meth c F H locs A hz hH hS hl
  exact lv_ldc2 F.1 F.2.1 F.2.2.2.1 (F.2.2.2.2.1 _ hw) d (k p l e s m args below meth c F H locs A hz hH hS hl)
/-- fewer locals known -/
theorem r_sub (ls2 : List (Option Value)) (hs : ∀ (i : Nat) (w : Value), ls2[i]? = some (some w) → ls[i]? = some (some w)) (k : J v M R K t0 cells slots h top pc ls2 st) : J v M R K t0 cells slots h top pc ls st := by
  intro p l e s m args below meth c F H locs A hz hH hS hl
  exact k p l e s m args below meth c F H locs A hz hH hS ⟨hl.1, hl.2.1, fun i w hw => hl.2.2 i w (hs i w hw)⟩
theorem r_lt {a : Nat} {e : va_E} (ha : h a = some e) (k : z0 v ≤ a → a < top → J v M R K t0 cells slots h top pc ls st) : J v M R K t0 cells slots h top pc ls st := by
  intro p l e9 s m args below meth c F H locs A hz hH hS hl
  exact k (hH a e ha).1 (by rw [← hz]; exact hH.lt ha) p l e9 s m args below meth c F H locs A hz hH hS hl
theorem r_widen {c2 s2 : Nat} (h1 : cells ≤ c2) (h2 : slots ≤ s2) (k : J v M R K t0 c2 s2 h top pc ls st) : J v M R K t0 cells slots h top pc ls st := by
  intro p l e s m args below meth c F H locs A hz hH hS hl
  exact W.widen h1 h2 (k p l e s m args below meth c F H locs A hz hH hS hl)
/-- a picture of the heap that says less -/
theorem r_less {h2 : Hp} (hs : ∀ (a : Nat) (e : va_E), h2 a = some e → h a = some e) (k : J v M R K t0 cells slots h2 top pc ls st) : J v M R K t0 cells slots h top pc ls st := by
  intro p l e s m args below meth c F H locs A hz hH hS hl
  exact k p l e s m args below meth c F H locs A hz (fun a x hx => hH a x (hs a x hx)) hS hl
end JR
