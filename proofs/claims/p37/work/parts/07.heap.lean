/-! ===== J rows: fields, arrays, new cells, calls, ends, throws ===== -/
/-- a class of the worlds, with its tables -/
def Clk (ci : Nat) (C : String) (T : u_T) (N : Nat) (ty : Nat → FieldType) : Prop :=
  vwCl[ci]? = some (C, T, N) ∧ (∀ w ∈ u_ws C T N, w ∈ big) ∧ (∀ k, k < N → parseFieldDescriptor (T k).2.2.1 = some (ty k)) ∧ (∀ a, a < N → ∀ b, b < N → a ≠ b → (T a).2.1 ≠ (T b).2.1)
/-- the pool's place idx of the class own is the field k of the class ci -/
def Gf (own : String) (idx ci k : Nat) : Prop := ∃ (C : String) (T : u_T) (N : Nat) (ty : Nat → FieldType), Clk ci C T N ty ∧ k < N ∧
  (Cond.fieldLink own idx (T k).1 (T k).2.1 (T k).2.2.1 ∈ big ∨ ∃ host, Cond.fieldLinkNest own idx (T k).1 (T k).2.1 (T k).2.2.1 host ∈ lw_tbl)
def Pf (own : String) (idx ci k : Nat) (t : FieldType) : Prop := ∃ (C : String) (T : u_T) (N : Nat) (ty : Nat → FieldType), Clk ci C T N ty ∧ k < N ∧
  (Cond.fieldLink own idx (T k).1 (T k).2.1 (T k).2.2.1 ∈ big ∨ ∃ host, Cond.fieldLinkNest own idx (T k).1 (T k).2.1 (T k).2.2.1 host ∈ lw_tbl) ∧ (T k).2.2.2 = false ∧ parseFieldDescriptor (T k).2.2.1 = some t
def Pff (own : String) (idx ci k : Nat) (t : FieldType) : Prop := ∃ (C : String) (T : u_T) (N : Nat) (ty : Nat → FieldType), Clk ci C T N ty ∧ k < N ∧
  Cond.fieldLink own idx (T k).1 (T k).2.1 (T k).2.2.1 ∈ big ∧ (T k).2.2.2 = true ∧ (T k).1 = own ∧ parseFieldDescriptor (T k).2.2.1 = some t
theorem va_P1 {D : va_G} {cl : List vw_C} {q : Nat × va_E} {H : Heap} (h : va_at D cl q H) : va_P D cl [q] H := by
  intro k x hk
  match k, hk with
  | 0, hk => cases hk; exact h
theorem in_nI {x : Int32} {i n : Nat} (hx : x = nI i) (hn : i < n) (hN : n ≤ 2147483647) : vp_in x n ∧ x.toNatClampNeg = i := by
  subst hx
  exact ⟨vp_in_nI hn (by omega), nI_clamp (by omega)⟩
section JH
variable {v : Ev} {M : Md} {R : Room} {K : List Frame → Array Value → State → State → Prop} {t0 cells slots : Nat} {h : Hp} {top pc : Nat} {ls : List (Option Value)} {st : List Value}
theorem Fx.ht {p : Program} {l : Launch} {s : State} {m : MethodId} {args : Array Value} {meth : Method} {c : Code} (F : Fx v M t0 p l s m args meth c) : ∀ w ∈ big, w.before args s = true := F.2.2.2.2.1
theorem Fx.bs {p : Program} {l : Launch} {s : State} {m : MethodId} {args : Array Value} {meth : Method} {c : Code} (F : Fx v M t0 p l s m args meth c) : Bs v s := F.2.2.2.2.2.2.2.2.1
theorem Fx.nest {p : Program} {l : Launch} {s : State} {m : MethodId} {args : Array Value} {meth : Method} {c : Code} (F : Fx v M t0 p l s m args meth c) {w : Cond} (hw : w ∈ lw_tbl) (hk : nwk w = true) : w.before args s = true := va_Nw.use (nwk_on hk) (F.bs.2.1.1 w hw hk)
theorem Fx.z {p : Program} {l : Launch} {s : State} {m : MethodId} {args : Array Value} {meth : Method} {c : Code} (F : Fx v M t0 p l s m args meth c) : z0 v ≤ s.heap.size := by
  obtain ⟨-, -, -, -, -, -, -, -, -, h1, h2, -⟩ := F
  omega
theorem Fx.old {p : Program} {l : Launch} {s : State} {m : MethodId} {args : Array Value} {meth : Method} {c : Code} (F : Fx v M t0 p l s m args meth c) : Old v s s.heap := F.bs.2.2
theorem r_get {a idx k : Nat} {ci : Nat} {fs : List Value} {w : Value} (d : decode M.2.1 pc = .ok (.getfield idx, 3)) (g : Gf M.1.cls idx ci k) (hh : h a = some (ob ci fs)) (hv : fs[k]? = some w)
    (kk : J v M R K t0 cells slots h top (pc + 3) ls (w :: st)) : J v M R K t0 cells slots h top pc ls (.ref a :: st) := by
  intro p l e s m args below meth c F H locs A hz hH hS hl
  obtain ⟨C, T, N, ty, ⟨hc, hin, -, -⟩, hk, hlk⟩ := g
  have hP := va_P1 (hH a _ hh).2
  rcases hlk with hlk | ⟨host, hlk⟩
  · exact va_get F.1 F.2.1 F.ht hin F.2.2.2.1 F.bs.1 hP 0 rfl hc k hk (F.ht _ hlk) (fun _ q => q) hv d (kk p l e s m args below meth c F H locs A hz hH hS hl)
  · exact va_getN F.1 F.2.1 F.ht hin F.2.2.2.1 F.bs.1 hP 0 rfl hc k hk (F.nest hlk rfl) (fun _ q => q) hv d (kk p l e s m args below meth c F H locs A hz hH hS hl)
theorem r_put {a idx k ci : Nat} {fs : List Value} {w : Value} {t : FieldType} (d : decode M.2.1 pc = .ok (.putfield idx, 3)) (g : Pf M.1.cls idx ci k t) (hh : h a = some (ob ci fs)) (hlen : k < fs.length) (hn : narrow t w = w) (hf : fits t w = true)
    (kk : J v M R K t0 cells slots (hp h a (ob ci (fs.set k w))) top (pc + 3) ls st) : J v M R K t0 cells slots h top pc ls (w :: .ref a :: st) := by
  intro p l e s m args below meth c F H locs A hz hH hS hl
  obtain ⟨C, T, N, ty, ⟨hc, hin, hty, hnm⟩, hk, hlk, hfin, hd⟩ := g
  have hts := F.ht
  have hap := va_apart (own := M.1.cls) hts hin ty hty hnm F.bs.1 hc
  obtain ⟨hz0, r, h1, cell, q1, q2, q3, q4⟩ := hH a _ hh
  have hr : r = (C, T, N) := Option.some.inj (h1.symm.trans hc)
  subst hr
  obtain ⟨hSl, hfc, kC, hkC, hkind⟩ := F.bs.1.1 ci _ hc
  obtain ⟨cf, kf, fi, f, hi, hsl⟩ := hSl k hk
  have hlay := hts _ (hin _ (u_in_lay hk))
  unfold u_lay at hlay
  rw [if_neg (by rw [hfin]; decide)] at hlay
  have hst := (u_facts hfc hkC (u_lays hts hin hk) hi).1
  have h6 := u_store hfc hkC hkind hlay hi hd hn hf
  rcases hlk with hlk | ⟨host, hlk⟩
  · refine W.putK F.1 F.2.1 (f := f) ⟨F.2.2.2.1, hts _ hlk, ⟨_, _, _, hi⟩, hst⟩ (by rw [q2]; exact h6) q1 q3 (by rw [hsl]; exact k2_hasslot (q4 k hk)) rfl rfl d fun H1 e1 e2 e3 => ?_
    rw [hsl] at e1 ⊢
    exact kk p l e s m args below meth c F H1 _ A (e2.trans hz) (hH.set hz0 ⟨_, hc, t_OB.to (V := updV (vp_V fs) k w) ⟨_, e1, q2, q3, t_set q4 hap hk w⟩ (fun j _ => vp_updV_set hlen w j)⟩ e3) (hS.put e2 e3 hz0) hl
  · refine va_WputK F.1 F.2.1 (f := f) F.2.2.2.1 (F.nest hlk rfl) hi hst (by rw [q2]; exact h6) q1 q3 (by rw [hsl]; exact k2_hasslot (q4 k hk)) rfl rfl d fun H1 e1 e2 e3 => ?_
    rw [hsl] at e1 ⊢
    exact kk p l e s m args below meth c F H1 _ A (e2.trans hz) (hH.set hz0 ⟨_, hc, t_OB.to (V := updV (vp_V fs) k w) ⟨_, e1, q2, q3, t_set q4 hap hk w⟩ (fun j _ => vp_updV_set hlen w j)⟩ e3) (hS.put e2 e3 hz0) hl
theorem r_putF {a idx k ci : Nat} {fs : List Value} {w : Value} {t : FieldType} (d : decode M.2.1 pc = .ok (.putfield idx, 3)) (g : Pff M.1.cls idx ci k t) (hini : M.1.name = "<init>") (hh : h a = some (ob ci fs)) (hlen : k < fs.length) (hn : narrow t w = w) (hf : fits t w = true)
    (kk : J v M R K t0 cells slots (hp h a (ob ci (fs.set k w))) top (pc + 3) ls st) : J v M R K t0 cells slots h top pc ls (w :: .ref a :: st) := by
  intro p l e s m args below meth c F H locs A hz hH hS hl
  obtain ⟨C, T, N, ty, ⟨hc, hin, hty, hnm⟩, hk, hlk, hfin, hdecl, hd⟩ := g
  have hts := F.ht
  have hap := va_apart (own := M.1.cls) hts hin ty hty hnm F.bs.1 hc
  obtain ⟨hz0, r, h1, cell, q1, q2, q3, q4⟩ := hH a _ hh
  have hr : r = (C, T, N) := Option.some.inj (h1.symm.trans hc)
  subst hr
  obtain ⟨hSl, hfc, kC, hkC, hkind⟩ := F.bs.1.1 ci _ hc
  obtain ⟨cf, kf, fi, f, hi, hsl⟩ := hSl k hk
  have hlay := hts _ (hin _ (u_in_lay hk))
  unfold u_lay at hlay
  rw [if_pos hfin] at hlay
  have hst := (u_facts hfc hkC (u_lays hts hin hk) hi).1
  have hcf : m.cls = cf := by
    obtain ⟨_, _, c', _, _, _, -, -, hf', -, -, -, hown2, -⟩ := Cond.laysFinal_spec hlay
    have e1 : c' = cf := by have := hi.symm.trans hf'; simp at this; exact this.1.symm
    rw [hdecl] at hown2
    rw [← e1]; exact Option.some.inj (F.2.2.2.1.symm.trans hown2)
  have hnam : meth.name = "<init>" := by
    obtain ⟨-, -, -, -, -, -, -, -, -, -, -, h1, -⟩ := F
    rw [h1, hini]
  have h6 := u_fits hfc hkC hkind (Or.inr hlay) hi hd hn hf
  refine W.putFinK F.1 F.2.1 F.2.2.2.1 (hts _ hlk) hi hst hcf hnam (by rw [q2]; exact h6) q1 q3 (by rw [hsl]; exact k2_hasslot (q4 k hk)) rfl rfl d fun H1 e1 e2 e3 => ?_
  rw [hsl] at e1 ⊢
  exact kk p l e s m args below meth c F H1 _ A (e2.trans hz) (hH.set hz0 ⟨_, hc, t_OB.to (V := updV (vp_V fs) k w) ⟨_, e1, q2, q3, t_set q4 hap hk w⟩ (fun j _ => vp_updV_set hlen w j)⟩ e3) (hS.put e2 e3 hz0) hl
theorem r_iald {a n : Nat} {f : Nat → Int32} {x : Int32} (d : decode M.2.1 pc = .ok (.iaload, 1)) (hh : h a = some (aI v n f)) (i : Nat) (hx : x = nI i) (hn : i < n) (hN : n ≤ 2147483647) (kk : J v M R K t0 cells slots h top (pc + 1) ls (.int (f i) :: st)) : J v M R K t0 cells slots h top pc ls (.int x :: .ref a :: st) := by
  intro p l e s m args below meth c F H locs A hz hH hS hl
  obtain ⟨h1, h2⟩ := in_nI hx hn hN
  exact va_iald F.1 F.2.1 F.bs.1 (va_P1 (hH a _ hh).2) 0 0 rfl rfl h1 d (by rw [h2]; exact kk p l e s m args below meth c F H locs A hz hH hS hl)
theorem r_lald {a n : Nat} {f : Nat → Int64} {x : Int32} (d : decode M.2.1 pc = .ok (.laload, 1)) (hh : h a = some (aJ v n f)) (i : Nat) (hx : x = nI i) (hn : i < n) (hN : n ≤ 2147483647) (kk : J v M R K t0 cells slots h top (pc + 1) ls (.long (f i) :: st)) : J v M R K t0 cells slots h top pc ls (.int x :: .ref a :: st) := by
  intro p l e s m args below meth c F H locs A hz hH hS hl
  obtain ⟨h1, h2⟩ := in_nI hx hn hN
  exact va_lald F.1 F.2.1 F.bs.1 (va_P1 (hH a _ hh).2) 0 1 rfl rfl h1 d (by rw [h2]; exact kk p l e s m args below meth c F H locs A hz hH hS hl)
theorem r_fald {a n : Nat} {f : Nat → UInt32} {x : Int32} (d : decode M.2.1 pc = .ok (.faload, 1)) (hh : h a = some (aF v n f)) (i : Nat) (hx : x = nI i) (hn : i < n) (hN : n ≤ 2147483647) (kk : J v M R K t0 cells slots h top (pc + 1) ls (.float (f i) :: st)) : J v M R K t0 cells slots h top pc ls (.int x :: .ref a :: st) := by
  intro p l e s m args below meth c F H locs A hz hH hS hl
  obtain ⟨h1, h2⟩ := in_nI hx hn hN
  exact va_fald F.1 F.2.1 F.bs.1 (va_P1 (hH a _ hh).2) 0 2 rfl rfl h1 d (by rw [h2]; exact kk p l e s m args below meth c F H locs A hz hH hS hl)
theorem r_zald {a n : Nat} {f : Nat → Int32} {x : Int32} (d : decode M.2.1 pc = .ok (.baload, 1)) (hh : h a = some (aZ v n f)) (i : Nat) (hx : x = nI i) (hn : i < n) (hN : n ≤ 2147483647) (kk : J v M R K t0 cells slots h top (pc + 1) ls (.int (f i) :: st)) : J v M R K t0 cells slots h top pc ls (.int x :: .ref a :: st) := by
  intro p l e s m args below meth c F H locs A hz hH hS hl
  obtain ⟨h1, h2⟩ := in_nI hx hn hN
  exact va_zald F.1 F.2.1 F.bs.1 (va_P1 (hH a _ hh).2) 0 4 rfl rfl h1 d (by rw [h2]; exact kk p l e s m args below meth c F H locs A hz hH hS hl)
theorem r_bald {a n : Nat} {f : Nat → Int32} {x : Int32} (d : decode M.2.1 pc = .ok (.baload, 1)) (hh : h a = some (aB v n f)) (i : Nat) (hx : x = nI i) (hn : i < n) (hN : n ≤ 2147483647) (kk : J v M R K t0 cells slots h top (pc + 1) ls (.int (f i) :: st)) : J v M R K t0 cells slots h top pc ls (.int x :: .ref a :: st) := by
  intro p l e s m args below meth c F H locs A hz hH hS hl
  obtain ⟨h1, h2⟩ := in_nI hx hn hN
  exact va_bald F.1 F.2.1 F.bs.1 (va_P1 (hH a _ hh).2) 0 3 rfl rfl h1 d (by rw [h2]; exact kk p l e s m args below meth c F H locs A hz hH hS hl)
theorem r_iast {a n : Nat} {f : Nat → Int32} {x : Int32} {w : Int32} (d : decode M.2.1 pc = .ok (.iastore, 1)) (hh : h a = some (aI v n f)) (i : Nat) (hx : x = nI i) (hn : i < n) (hN : n ≤ 2147483647) (kk : J v M R K t0 cells slots (hp h a (aI v n (upd f i (w)))) top (pc + 1) ls st) : J v M R K t0 cells slots h top pc ls (.int w :: .int x :: .ref a :: st) := by
  intro p l e s m args below meth c F H locs A hz hH hS hl
  obtain ⟨h1, h2⟩ := in_nI hx hn hN
  obtain ⟨hz0, hat⟩ := hH a _ hh
  refine W.iast F.1 F.2.1 (show H[a]? = some (arrV (cA v 0) n (fun j => .int (f j))) from hat) ((F.bs.1.2 0 _ rfl).1 n (fun j => .int (f j))) (fun q => by cases q) (by rw [arrV_size]; exact h1) rfl rfl d fun H1 e1 z1 oq => ?_
  refine kk p l e s m args below meth c F H1 _ A (z1.trans hz) (hH.set hz0 ?_ oq) (hS.put z1 oq hz0) hl
  show H1[a]? = some (arrV (cA v 0) n (fun j => .int (upd f i (w) j)))
  rw [e1, arrV_store, h2]
  congr 2
  funext q
  by_cases hq : q = i
  · subst hq
    simp [updV, upd]
  · simp [updV, upd, hq]
theorem r_last {a n : Nat} {f : Nat → Int64} {x : Int32} {w : Int64} (d : decode M.2.1 pc = .ok (.lastore, 1)) (hh : h a = some (aJ v n f)) (i : Nat) (hx : x = nI i) (hn : i < n) (hN : n ≤ 2147483647) (kk : J v M R K t0 cells slots (hp h a (aJ v n (vp_updL f i (w)))) top (pc + 1) ls st) : J v M R K t0 cells slots h top pc ls (.long w :: .int x :: .ref a :: st) := by
  intro p l e s m args below meth c F H locs A hz hH hS hl
  obtain ⟨h1, h2⟩ := in_nI hx hn hN
  obtain ⟨hz0, hat⟩ := hH a _ hh
  refine W.last F.1 F.2.1 (show H[a]? = some (arrV (cA v 1) n (fun j => .long (f j))) from hat) ((F.bs.1.2 1 _ rfl).1 n (fun j => .long (f j))) (fun q => by cases q) (by rw [arrV_size]; exact h1) rfl rfl d fun H1 e1 z1 oq => ?_
  refine kk p l e s m args below meth c F H1 _ A (z1.trans hz) (hH.set hz0 ?_ oq) (hS.put z1 oq hz0) hl
  show H1[a]? = some (arrV (cA v 1) n (fun j => .long (vp_updL f i (w) j)))
  rw [e1, arrV_store, h2]
  congr 2
  funext q
  by_cases hq : q = i
  · subst hq
    simp [updV, vp_updL]
  · simp [updV, vp_updL, hq]
theorem r_fast {a n : Nat} {f : Nat → UInt32} {x : Int32} {w : UInt32} (d : decode M.2.1 pc = .ok (.fastore, 1)) (hh : h a = some (aF v n f)) (i : Nat) (hx : x = nI i) (hn : i < n) (hN : n ≤ 2147483647) (kk : J v M R K t0 cells slots (hp h a (aF v n (vf_upd f i (w)))) top (pc + 1) ls st) : J v M R K t0 cells slots h top pc ls (.float w :: .int x :: .ref a :: st) := by
  intro p l e s m args below meth c F H locs A hz hH hS hl
  obtain ⟨h1, h2⟩ := in_nI hx hn hN
  obtain ⟨hz0, hat⟩ := hH a _ hh
  refine W.fast F.1 F.2.1 (show H[a]? = some (arrV (cA v 2) n (fun j => .float (f j))) from hat) ((F.bs.1.2 2 _ rfl).1 n (fun j => .float (f j))) (fun q => by cases q) (by rw [arrV_size]; exact h1) rfl rfl d fun H1 e1 z1 oq => ?_
  refine kk p l e s m args below meth c F H1 _ A (z1.trans hz) (hH.set hz0 ?_ oq) (hS.put z1 oq hz0) hl
  show H1[a]? = some (arrV (cA v 2) n (fun j => .float (vf_upd f i (w) j)))
  rw [e1, arrV_store, h2]
  congr 2
  funext q
  by_cases hq : q = i
  · subst hq
    simp [updV, vf_upd]
  · simp [updV, vf_upd, hq]
theorem r_zast {a n : Nat} {f : Nat → Int32} {x : Int32} {w : Int32} (d : decode M.2.1 pc = .ok (.bastore, 1)) (hh : h a = some (aZ v n f)) (i : Nat) (hx : x = nI i) (hn : i < n) (hN : n ≤ 2147483647) (kk : J v M R K t0 cells slots (hp h a (aZ v n (upd f i (vp_nar .boolean w)))) top (pc + 1) ls st) : J v M R K t0 cells slots h top pc ls (.int w :: .int x :: .ref a :: st) := by
  intro p l e s m args below meth c F H locs A hz hH hS hl
  obtain ⟨h1, h2⟩ := in_nI hx hn hN
  obtain ⟨hz0, hat⟩ := hH a _ hh
  refine W.zast F.1 F.2.1 (show H[a]? = some (arrV (cA v 4) n (fun j => .int (f j))) from hat) ((F.bs.1.2 4 _ rfl).1 n (fun j => .int (f j))) (fun q => by cases q) (by rw [arrV_size]; exact h1) rfl rfl d fun H1 e1 z1 oq => ?_
  refine kk p l e s m args below meth c F H1 _ A (z1.trans hz) (hH.set hz0 ?_ oq) (hS.put z1 oq hz0) hl
  show H1[a]? = some (arrV (cA v 4) n (fun j => .int (upd f i (vp_nar .boolean w) j)))
  rw [e1, arrV_store, h2]
  congr 2
  funext q
  by_cases hq : q = i
  · subst hq
    simp [updV, upd, vp_nar]
    try rfl
  · simp [updV, upd, hq]
theorem r_bast {a n : Nat} {f : Nat → Int32} {x : Int32} {w : Int32} (d : decode M.2.1 pc = .ok (.bastore, 1)) (hh : h a = some (aB v n f)) (i : Nat) (hx : x = nI i) (hn : i < n) (hN : n ≤ 2147483647) (kk : J v M R K t0 cells slots (hp h a (aB v n (upd f i (vp_nar .byte w)))) top (pc + 1) ls st) : J v M R K t0 cells slots h top pc ls (.int w :: .int x :: .ref a :: st) := by
  intro p l e s m args below meth c F H locs A hz hH hS hl
  obtain ⟨h1, h2⟩ := in_nI hx hn hN
  obtain ⟨hz0, hat⟩ := hH a _ hh
  refine W.bast F.1 F.2.1 (show H[a]? = some (arrV (cA v 3) n (fun j => .int (f j))) from hat) ((F.bs.1.2 3 _ rfl).1 n (fun j => .int (f j))) (fun q => by cases q) (by rw [arrV_size]; exact h1) rfl rfl d fun H1 e1 z1 oq => ?_
  refine kk p l e s m args below meth c F H1 _ A (z1.trans hz) (hH.set hz0 ?_ oq) (hS.put z1 oq hz0) hl
  show H1[a]? = some (arrV (cA v 3) n (fun j => .int (upd f i (vp_nar .byte w) j)))
  rw [e1, arrV_store, h2]
  congr 2
  funext q
  by_cases hq : q = i
  · subst hq
    simp [updV, upd, vp_nar]
    try rfl
  · simp [updV, upd, hq]
theorem r_alenI {a n : Nat} {f : Nat → Int32} (d : decode M.2.1 pc = .ok (.arraylength, 1)) (hh : h a = some (aI v n f)) (kk : J v M R K t0 cells slots h top (pc + 1) ls (.int (nI n) :: st)) : J v M R K t0 cells slots h top pc ls (.ref a :: st) := by
  intro p l e s m args below meth c F H locs A hz hH hS hl
  exact va_alen F.1 F.2.1 F.bs.1 (va_P1 (hH a _ hh).2) 0 0 rfl rfl rfl d (kk p l e s m args below meth c F H locs A hz hH hS hl)
theorem r_alenJ {a n : Nat} {f : Nat → Int64} (d : decode M.2.1 pc = .ok (.arraylength, 1)) (hh : h a = some (aJ v n f)) (kk : J v M R K t0 cells slots h top (pc + 1) ls (.int (nI n) :: st)) : J v M R K t0 cells slots h top pc ls (.ref a :: st) := by
  intro p l e s m args below meth c F H locs A hz hH hS hl
  exact va_alen F.1 F.2.1 F.bs.1 (va_P1 (hH a _ hh).2) 0 1 rfl rfl rfl d (kk p l e s m args below meth c F H locs A hz hH hS hl)
theorem r_alenB {a n : Nat} {f : Nat → Int32} (d : decode M.2.1 pc = .ok (.arraylength, 1)) (hh : h a = some (aB v n f)) (kk : J v M R K t0 cells slots h top (pc + 1) ls (.int (nI n) :: st)) : J v M R K t0 cells slots h top pc ls (.ref a :: st) := by
  intro p l e s m args below meth c F H locs A hz hH hS hl
  exact va_alen F.1 F.2.1 F.bs.1 (va_P1 (hH a _ hh).2) 0 3 rfl rfl rfl d (kk p l e s m args below meth c F H locs A hz hH hS hl)
theorem r_iald1 {x : Int32} (d : decode M.2.1 pc = .ok (.iaload, 1)) (hx : x = nI 0) (kk : J v M R K t0 cells slots h top (pc + 1) ls (.int 1 :: st)) : J v M R K t0 cells slots h top pc ls (.int x :: .ref (oA v 0) :: st) := by
  intro p l e s m args below meth c F H locs A hz hH hS hl
  obtain ⟨h1, h2⟩ := in_nI (n := 1) hx (by omega) (by omega)
  exact va_ti F.1 F.2.1 F.old.2.1 hS h1 rfl d (kk p l e s m args below meth c F H locs A hz hH hS hl)
theorem r_alen1 (d : decode M.2.1 pc = .ok (.arraylength, 1)) (kk : J v M R K t0 cells slots h top (pc + 1) ls (.int (nI 1) :: st)) : J v M R K t0 cells slots h top pc ls (.ref (oA v 0) :: st) := by
  intro p l e s m args below meth c F H locs A hz hH hS hl
  exact va_tlen F.1 F.2.1 F.old.2.1 hS rfl d (kk p l e s m args below meth c F H locs A hz hH hS hl)
theorem r_getCost {idx : Nat} {host : String} (d : decode M.2.1 pc = .ok (.getstatic idx, 3)) (hw : Cond.fieldLinkNest M.1.cls idx "RandomWalks" "COST_ONE" "[I" host ∈ lw_tbl) (kk : J v M R K t0 cells slots h top (pc + 3) ls (.ref (oA v 0) :: st)) : J v M R K t0 cells slots h top pc ls st := by
  intro p l e s m args below meth c F H locs A hz hH hS hl
  exact va_getsN F.1 F.2.1 F.old.1 hS F.2.2.2.1 (F.nest hw rfl) (fun _ q => q) d (kk p l e s m args below meth c F H locs A hz hH hS hl)
theorem r_newaI {x : Int32} (n : Nat) (d : decode M.2.1 pc = .ok (.newarray .int, 2)) (hx : x = nI n) (hn : n ≤ 65536) (hw : Cond.arrayClass .int ∈ big) (hc : cells + 1 ≤ R.cells) (hs : slots + n ≤ R.slots)
    (kk : h top = none → J v M R K t0 (cells + 1) (slots + n) (hp h top (aI v n (fun _ => 0))) (top + 1) (pc + 2) ls (.ref top :: st)) : J v M R K t0 cells slots h top pc ls (.int x :: st) := by
  intro p l e s m args below meth c F H locs A hz hH hS hl
  subst hz
  have hfr : h H.size = none := by
    cases q : h H.size with
    | none => rfl
    | some e9 => exact absurd (hH.lt q) (Nat.lt_irrefl _)
  have h0 : z0 v ≤ H.size := Nat.le_trans F.z hS.1
  refine va_newaK F.1 F.2.1 (atype := .int) (F.ht _ hw) rfl d rfl (by rw [hx]; exact nI_pos (by omega)) (N := n) (by rw [hx]; exact nI_clamp (by omega)) (by show n * 4 ≤ 536870912; omega) hc hs rfl fun H1 cA1 e1 z1 o1 hAr hNm => ?_
  have hcA : cA1 = cA v 0 := Option.some.inj (hNm.symm.trans (F.bs.1.2 0 _ rfl).2)
  subst hcA
  exact kk hfr p l e s m args below meth c F H1 locs A (by omega) (hH.new h0 (show H1[H.size]? = some (arrV (cA v 0) n (fun _ => defaultValue .int)) from e1) o1) ⟨Nat.le_trans hS.1 (by omega), fun x h1 h2 => (o1 x (Nat.lt_of_lt_of_le h1 hS.1)).trans (hS.2.1 x h1 h2), hS.2.2⟩ hl
theorem r_newaJ {x : Int32} (n : Nat) (d : decode M.2.1 pc = .ok (.newarray .long, 2)) (hx : x = nI n) (hn : n ≤ 65536) (hw : Cond.arrayClass .long ∈ big) (hc : cells + 1 ≤ R.cells) (hs : slots + n ≤ R.slots)
    (kk : h top = none → J v M R K t0 (cells + 1) (slots + n) (hp h top (aJ v n (fun _ => 0))) (top + 1) (pc + 2) ls (.ref top :: st)) : J v M R K t0 cells slots h top pc ls (.int x :: st) := by
  intro p l e s m args below meth c F H locs A hz hH hS hl
  subst hz
  have hfr : h H.size = none := by
    cases q : h H.size with
    | none => rfl
    | some e9 => exact absurd (hH.lt q) (Nat.lt_irrefl _)
  have h0 : z0 v ≤ H.size := Nat.le_trans F.z hS.1
  refine va_newaK F.1 F.2.1 (atype := .long) (F.ht _ hw) rfl d rfl (by rw [hx]; exact nI_pos (by omega)) (N := n) (by rw [hx]; exact nI_clamp (by omega)) (by show n * 8 ≤ 536870912; omega) hc hs rfl fun H1 cA1 e1 z1 o1 hAr hNm => ?_
  have hcA : cA1 = cA v 1 := Option.some.inj (hNm.symm.trans (F.bs.1.2 1 _ rfl).2)
  subst hcA
  exact kk hfr p l e s m args below meth c F H1 locs A (by omega) (hH.new h0 (show H1[H.size]? = some (arrV (cA v 1) n (fun _ => defaultValue .long)) from e1) o1) ⟨Nat.le_trans hS.1 (by omega), fun x h1 h2 => (o1 x (Nat.lt_of_lt_of_le h1 hS.1)).trans (hS.2.1 x h1 h2), hS.2.2⟩ hl
theorem r_newaF {x : Int32} (n : Nat) (d : decode M.2.1 pc = .ok (.newarray .float, 2)) (hx : x = nI n) (hn : n ≤ 65536) (hw : Cond.arrayClass .float ∈ big) (hc : cells + 1 ≤ R.cells) (hs : slots + n ≤ R.slots)
    (kk : h top = none → J v M R K t0 (cells + 1) (slots + n) (hp h top (aF v n (fun _ => 0))) (top + 1) (pc + 2) ls (.ref top :: st)) : J v M R K t0 cells slots h top pc ls (.int x :: st) := by
  intro p l e s m args below meth c F H locs A hz hH hS hl
  subst hz
  have hfr : h H.size = none := by
    cases q : h H.size with
    | none => rfl
    | some e9 => exact absurd (hH.lt q) (Nat.lt_irrefl _)
  have h0 : z0 v ≤ H.size := Nat.le_trans F.z hS.1
  refine va_newaK F.1 F.2.1 (atype := .float) (F.ht _ hw) rfl d rfl (by rw [hx]; exact nI_pos (by omega)) (N := n) (by rw [hx]; exact nI_clamp (by omega)) (by show n * 4 ≤ 536870912; omega) hc hs rfl fun H1 cA1 e1 z1 o1 hAr hNm => ?_
  have hcA : cA1 = cA v 2 := Option.some.inj (hNm.symm.trans (F.bs.1.2 2 _ rfl).2)
  subst hcA
  exact kk hfr p l e s m args below meth c F H1 locs A (by omega) (hH.new h0 (show H1[H.size]? = some (arrV (cA v 2) n (fun _ => defaultValue .float)) from e1) o1) ⟨Nat.le_trans hS.1 (by omega), fun x h1 h2 => (o1 x (Nat.lt_of_lt_of_le h1 hS.1)).trans (hS.2.1 x h1 h2), hS.2.2⟩ hl
theorem r_newaB {x : Int32} (n : Nat) (d : decode M.2.1 pc = .ok (.newarray .byte, 2)) (hx : x = nI n) (hn : n ≤ 65536) (hw : Cond.arrayClass .byte ∈ big) (hc : cells + 1 ≤ R.cells) (hs : slots + n ≤ R.slots)
    (kk : h top = none → J v M R K t0 (cells + 1) (slots + n) (hp h top (aB v n (fun _ => 0))) (top + 1) (pc + 2) ls (.ref top :: st)) : J v M R K t0 cells slots h top pc ls (.int x :: st) := by
  intro p l e s m args below meth c F H locs A hz hH hS hl
  subst hz
  have hfr : h H.size = none := by
    cases q : h H.size with
    | none => rfl
    | some e9 => exact absurd (hH.lt q) (Nat.lt_irrefl _)
  have h0 : z0 v ≤ H.size := Nat.le_trans F.z hS.1
  refine va_newaK F.1 F.2.1 (atype := .byte) (F.ht _ hw) rfl d rfl (by rw [hx]; exact nI_pos (by omega)) (N := n) (by rw [hx]; exact nI_clamp (by omega)) (by show n * 1 ≤ 536870912; omega) hc hs rfl fun H1 cA1 e1 z1 o1 hAr hNm => ?_
  have hcA : cA1 = cA v 3 := Option.some.inj (hNm.symm.trans (F.bs.1.2 3 _ rfl).2)
  subst hcA
  exact kk hfr p l e s m args below meth c F H1 locs A (by omega) (hH.new h0 (show H1[H.size]? = some (arrV (cA v 3) n (fun _ => defaultValue .byte)) from e1) o1) ⟨Nat.le_trans hS.1 (by omega), fun x h1 h2 => (o1 x (Nat.lt_of_lt_of_le h1 hS.1)).trans (hS.2.1 x h1 h2), hS.2.2⟩ hl
theorem r_newaZ {x : Int32} (n : Nat) (d : decode M.2.1 pc = .ok (.newarray .boolean, 2)) (hx : x = nI n) (hn : n ≤ 65536) (hw : Cond.arrayClass .boolean ∈ big) (hc : cells + 1 ≤ R.cells) (hs : slots + n ≤ R.slots)
    (kk : h top = none → J v M R K t0 (cells + 1) (slots + n) (hp h top (aZ v n (fun _ => 0))) (top + 1) (pc + 2) ls (.ref top :: st)) : J v M R K t0 cells slots h top pc ls (.int x :: st) := by
  intro p l e s m args below meth c F H locs A hz hH hS hl
  subst hz
  have hfr : h H.size = none := by
    cases q : h H.size with
    | none => rfl
    | some e9 => exact absurd (hH.lt q) (Nat.lt_irrefl _)
  have h0 : z0 v ≤ H.size := Nat.le_trans F.z hS.1
  refine va_newaK F.1 F.2.1 (atype := .boolean) (F.ht _ hw) rfl d rfl (by rw [hx]; exact nI_pos (by omega)) (N := n) (by rw [hx]; exact nI_clamp (by omega)) (by show n * 1 ≤ 536870912; omega) hc hs rfl fun H1 cA1 e1 z1 o1 hAr hNm => ?_
  have hcA : cA1 = cA v 4 := Option.some.inj (hNm.symm.trans (F.bs.1.2 4 _ rfl).2)
  subst hcA
  exact kk hfr p l e s m args below meth c F H1 locs A (by omega) (hH.new h0 (show H1[H.size]? = some (arrV (cA v 4) n (fun _ => defaultValue .boolean)) from e1) o1) ⟨Nat.le_trans hS.1 (by omega), fun x h1 h2 => (o1 x (Nat.lt_of_lt_of_le h1 hS.1)).trans (hS.2.1 x h1 h2), hS.2.2⟩ hl
theorem r_anewG {x : Int32} {idx : Nat} (n : Nat) (d : decode M.2.1 pc = .ok (.anewarray idx, 3)) (hx : x = nI n) (hn : n ≤ 65536) (hw : Cond.classLink M.1.cls idx "RandomWalks$Graph" ∈ big) (hc : cells + 1 ≤ R.cells) (hs : slots + n ≤ R.slots)
    (kk : h top = none → J v M R K t0 (cells + 1) (slots + n) (hp h top (aG v n (fun _ => none))) (top + 1) (pc + 3) ls (.ref top :: st)) : J v M R K t0 cells slots h top pc ls (.int x :: st) := by
  intro p l e s m args below meth c F H locs A hz hH hS hl
  subst hz
  have hfr : h H.size = none := by
    cases q : h H.size with
    | none => rfl
    | some e9 => exact absurd (hH.lt q) (Nat.lt_irrefl _)
  have h0 : z0 v ≤ H.size := Nat.le_trans F.z hS.1
  have hcl : x.toNatClampNeg = n := by rw [hx]; exact nI_clamp (by omega)
  refine W.anew F.1 F.2.1 F.2.2.2.1 (F.ht _ hw) (va_AO.use F.bs.2.1.2.2.2.1) rfl d rfl (by rw [hx]; exact nI_pos (by omega)) (by rw [hcl]; omega) hc (by rw [hcl]; exact hs) fun cA1 kA comp f1 f2 f3 f4 => ?_
  rw [hcl]
  generalize hH1 : H.push ({ cls := cA1, slots := Array.replicate n .null, vm := .none } : Cell) = H1
  have z1 : H1.size = H.size + 1 := by rw [← hH1, Array.size_push]
  have e1 : H1[H.size]? = some (arrV cA1 n (fun _ => .null)) := by rw [← hH1, Array.getElem?_push_size, ← arrV_new]
  have o1 : ∀ q : Nat, q < H.size → H1[q]? = H[q]? := fun q hq => by rw [← hH1, Array.getElem?_push, if_neg (Nat.ne_of_lt hq)]
  have hcA : cA1 = cA v 5 := by
    obtain ⟨kA2, comp2, g1, g2, g3, g4⟩ := (F.bs.1.2 5 _ rfl).2
    exact Option.some.inj (f1.symm.trans g4)
  subst hcA
  exact kk hfr p l e s m args below meth c F H1 locs A (by omega) (hH.new h0 (show H1[H.size]? = some (arrV (cA v 5) n (fun _ => .null)) from e1) o1) ⟨Nat.le_trans hS.1 (by omega), fun x h1 h2 => (o1 x (Nat.lt_of_lt_of_le h1 hS.1)).trans (hS.2.1 x h1 h2), hS.2.2⟩ hl
/-- a new object of the class ci: its words -/
def Nw (own : String) (idx ci : Nat) (N : Nat) (fs : List Value) : Prop := ∃ (C : String) (T : u_T) (ty : Nat → FieldType), Clk ci C T N ty ∧ Cond.classLink own idx C ∈ big ∧ Cond.instantiable C N ∈ big ∧ Cond.initialized C ∈ big ∧ ∀ j, j < N → defaultValue (ty j) = vp_V fs j
theorem r_new {idx ci N : Nat} {fs : List Value} (d : decode M.2.1 pc = .ok (.new idx, 3)) (g : Nw M.1.cls idx ci N fs) (hc : cells + 1 ≤ R.cells) (hs : slots + N ≤ R.slots)
    (kk : h top = none → J v M R K t0 (cells + 1) (slots + N) (hp h top (ob ci fs)) (top + 1) (pc + 3) ls (.ref top :: st)) : J v M R K t0 cells slots h top pc ls st := by
  intro p l e s m args below meth c F H locs A hz hH hS hl
  subst hz
  have hfr : h H.size = none := by
    cases q : h H.size with
    | none => rfl
    | some e9 => exact absurd (hH.lt q) (Nat.lt_irrefl _)
  have h0 : z0 v ≤ H.size := Nat.le_trans F.z hS.1
  obtain ⟨C, T, ty, ⟨hci, hin, hty, -⟩, w1, w2, w3, hfs⟩ := g
  have hKn := F.bs.1.1 ci _ hci
  refine W.newcK F.1 F.2.1 F.2.2.2.1 (F.ht _ w1) (F.ht _ w2) (F.ht _ w3) rfl d hc hs hKn.2.1 rfl fun H1 kC hkC e1 z1 o1 => ?_
  exact kk hfr p l e s m args below meth c F H1 locs A (by omega) (hH.new h0 ⟨_, hci, (u_born ty F.ht hin hKn hkC e1 hty).to hfs⟩ o1) ⟨Nat.le_trans hS.1 (by omega), fun x h1 h2 => (o1 x (Nat.lt_of_lt_of_le h1 hS.1)).trans (hS.2.1 x h1 h2), hS.2.2⟩ hl
theorem r_objInit {a idx : Nat} (d : decode M.2.1 pc = .ok (.invokespecial idx, 3)) (hw : Cond.methodLink M.1.cls idx Lib.objectInit ∈ big) (hw2 : Cond.instanceMethod Lib.objectInit ∈ big) (hw3 : Cond.code Lib.objectInit ⟨#[0xb1]⟩ 1 none ∈ big) (hf : 1 ≤ R.frames) (hl2 : (st.map fun w => w.category).sum + 12 ≤ R.locals)
    (kk : J v M R K t0 cells slots h top (pc + 3) ls st) : J v M R K t0 cells slots h top pc ls (.ref a :: st) := by
  intro p l e s m args below meth c F H locs A hz hH hS hl
  exact W.objInit F.1 F.2.1 F.2.2.2.1 (F.ht _ hw) (F.ht _ hw2) (F.ht _ hw3) rfl (hl.1.trans F.2.2.1.symm) rfl d hf (by show 2 * 0 + _ + 12 ≤ _; omega) (kk p l e s m args below meth c F H locs A hz hH hS hl)
theorem r_aald {a n : Nat} {f : Nat → Option Nat} {x : Int32} (d : decode M.2.1 pc = .ok (.aaload, 1)) (hh : h a = some (aG v n f)) (i : Nat) (hx : x = nI i) (hn : i < n) (hN : n ≤ 2147483647) (kk : J v M R K t0 cells slots h top (pc + 1) ls (va_rf (f i) :: st)) : J v M R K t0 cells slots h top pc ls (.int x :: .ref a :: st) := by
  intro p l e s m args below meth c F H locs A hz hH hS hl
  obtain ⟨h1, h2⟩ := in_nI hx hn hN
  exact va_aldq F.1 F.2.1 F.bs.1 (va_P1 (hH a _ hh).2) 0 5 rfl rfl h1 d (by rw [h2]; exact kk p l e s m args below meth c F H locs A hz hH hS hl)
theorem r_aast {a n b : Nat} {f : Nat → Option Nat} {x : Int32} {fs : List Value} (d : decode M.2.1 pc = .ok (.aastore, 1)) (hh : h a = some (aG v n f)) (hb : h b = some (ob 3 fs)) (i : Nat) (hx : x = nI i) (hn : i < n) (hN : n ≤ 2147483647) (kk : J v M R K t0 cells slots (hp h a (aG v n (va_up f i (some b)))) top (pc + 1) ls st) : J v M R K t0 cells slots h top pc ls (.ref b :: .int x :: .ref a :: st) := by
  intro p l e s m args below meth c F H locs A hz hH hS hl
  obtain ⟨h1, h2⟩ := in_nI hx hn hN
  have hlt : x.toNatClampNeg < n := by omega
  have h0 : ¬ x < 0 := fun q => h1 (Or.inl q)
  obtain ⟨hz0, hat⟩ := hH a _ hh
  obtain ⟨-, r', hr', cellV, g1, g2, g3, -⟩ := hH b _ hb
  have hcls := (F.bs.1.1 3 (RX3, TX3, 10) rfl).2
  obtain ⟨kA, comp, k1, k2, k3, -⟩ := (F.bs.1.2 5 _ rfl).2
  have hcomp : comp = v.1.1 3 := Option.some.inj (k3.symm.trans hcls.1)
  subst hcomp
  obtain ⟨kC, hkC, -⟩ := id hcls.2
  refine W.aast F.1 F.2.1 (show H[a]? = some (arrV (cA v 5) n (fun j => va_rf (f j))) from hat) (fun q hq => by cases hq) (fun hq => by cases hq) k1 k2 rfl hkC ⟨h0, by rw [arrV_size]; exact hlt⟩ g1 (fun q hq => by rw [g3] at hq; cases hq) (by rw [g2]; exact hkC) (by rw [g2]; exact va_assign hcls) rfl rfl d fun H1 e1 z1 oq => ?_
  refine kk p l e s m args below meth c F H1 _ A (z1.trans hz) (hH.set hz0 ?_ oq) (hS.put z1 oq hz0) hl
  show H1[a]? = some (arrV (cA v 5) n (fun j => va_rf (va_up f i (some b) j)))
  rw [e1, arrV_store, h2]
  congr 2
  funext q
  by_cases hq : q = i
  · subst hq
    simp [updV, va_up, va_rf]
  · simp [updV, va_up, hq]
end JH
