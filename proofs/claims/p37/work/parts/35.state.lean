/-! ===== the component's cells together ===== -/
def isP (v : Ev) (h : Hp) (q : Nat) (L : GT) (gn : Nat → Int) (fn : Nat → Nat) : Prop := h q = some (ptE q) ∧ isG v h (q + 1) L ∧ h (q + 7) = some (aJ v 6 (lF gn)) ∧ h (q + 8) = some (aI v 6 (iF fn))
theorem isP.self {v : Ev} {h : Hp} {q : Nat} {L : GT} {gn : Nat → Int} {fn : Nat → Nat} (k : isP v h q L gn fn) : pH v h q L gn fn = h := (pH_ext k.1 k.2.1 k.2.2.1 k.2.2.2 (fun _ _ => rfl)).symm
theorem pH_is {v : Ev} {h : Hp} {q : Nat} {L : GT} {gn : Nat → Int} {fn : Nat → Nat} : isP v (pH v h q L gn fn) q L gn fn := ⟨pH_0, pH_L, pH_7, pH_8⟩
def isE (v : Ev) (h : Hp) (q : Nat) (C : Nat → Int) (U : Nat → Nat) (k : Nat) : Prop := h q = some (eqE q k) ∧ h (q + 1) = some (aJ v 42 (lF C)) ∧ h (q + 2) = some (aI v 6 (iF U)) ∧ h (q + 3) = some (aJ v 6 (lF (fun _ => 0)))
theorem isE.self {v : Ev} {h : Hp} {q k : Nat} {C : Nat → Int} {U : Nat → Nat} (z : isE v h q C U k) : eH v h q C U k = h := (eH_ext z.1 z.2.1 z.2.2.1 z.2.2.2 (fun _ _ => rfl)).symm
theorem eH_is {v : Ev} {h : Hp} {q k : Nat} {C : Nat → Int} {U : Nat → Nat} : isE v (eH v h q C U k) q C U k := ⟨eH_0, eH_1, eH_2, eH_3⟩
def isSp (v : Ev) (h : Hp) (q : Nat) (T nw nx : Nat → UInt32) (a b : Int) : Prop := h q = some (spE q) ∧ h (q + 1) = some (aF v 36 T) ∧ h (q + 2) = some (aF v 6 nw) ∧ h (q + 3) = some (aF v 6 nx) ∧ h (q + 4) = some (frE a b)
theorem isSp.self {v : Ev} {h : Hp} {q : Nat} {T nw nx : Nat → UInt32} {a b : Int} (z : isSp v h q T nw nx a b) : spH v h q T nw nx a b = h := (spH_ext z.1 z.2.1 z.2.2.1 z.2.2.2.1 z.2.2.2.2 (fun _ _ => rfl)).symm
theorem spH_is {v : Ev} {h : Hp} {q : Nat} {T nw nx : Nat → UInt32} {a b : Int} : isSp v (spH v h q T nw nx a b) q T nw nx a b := ⟨spH_0, spH_1, spH_2, spH_3, spH_4⟩
def isTk (v : Ev) (h : Hp) (q : Nat) (t : TK) : Prop := h q = some (tkE q t.1.2 t.2.2) ∧ h (q + 1) = some (aB v 600 (bF t.1.1)) ∧ h (q + 2) = some (aI v 601 (sF t.2.1.1)) ∧ h (q + 3) = some (aI v 601 (iF t.2.1.2.1)) ∧ h (q + 4) = some (aI v 601 (iF t.2.1.2.2))
theorem isTk.self {v : Ev} {h : Hp} {q : Nat} {t : TK} (z : isTk v h q t) : tkH v h q t = h := (tkH_ext z.1 z.2.1 z.2.2.1 z.2.2.2.1 z.2.2.2.2 (fun _ _ => rfl)).symm
theorem tkH_is {v : Ev} {h : Hp} {q : Nat} {t : TK} : isTk v (tkH v h q t) q t := ⟨tkH_0, tkH_1, tkH_2, tkH_3, tkH_4⟩
def isRd (v : Ev) (h : Hp) (q : Nat) (R : RD) : Prop := h q = some (rdE q R.1) ∧ isTk v h (q + 1) R.T ∧ isG v h (q + 6) R.G ∧ h (q + 12) = some (aI v 600 (sF R.cd)) ∧ h (q + 13) = some (aI v 14 (sF R.wt))
theorem isRd.self {v : Ev} {h : Hp} {q : Nat} {R : RD} (z : isRd v h q R) : rdH v h q R = h := (rdH_ext z.1 (fun k hk => by rw [z.2.1.self]) z.2.2.1 z.2.2.2.1 z.2.2.2.2 (fun _ _ => rfl)).symm
theorem rdH_is {v : Ev} {h : Hp} {q : Nat} {R : RD} : isRd v (rdH v h q R) q R :=
  ⟨rdH_0, ⟨(rdH_T (k := 0) (by omega)).trans tkH_0, (rdH_T (k := 1) (by omega)).trans tkH_1, (rdH_T (k := 2) (by omega)).trans tkH_2, (rdH_T (k := 3) (by omega)).trans tkH_3, (rdH_T (k := 4) (by omega)).trans tkH_4⟩, rdH_G, rdH_12, rdH_13⟩
/-- the heaps agree on n cells from q on -/
def agr (h h' : Hp) (q n : Nat) : Prop := ∀ a, q ≤ a → a < q + n → h' a = h a
theorem agr.at {h h' : Hp} {q n a : Nat} {e : Option va_E} (k : agr h h' q n) (hh : h a = e) (h1 : q ≤ a) (h2 : a < q + n) : h' a = e := (k a h1 h2).trans hh
theorem agr.sub {h h' : Hp} {q n q2 n2 : Nat} (k : agr h h' q n) (h1 : q ≤ q2) (h2 : q2 + n2 ≤ q + n) : agr h h' q2 n2 := fun a g1 g2 => k a (by omega) (by omega)
theorem isG.agr {v : Ev} {h h' : Hp} {g : Nat} {G : GT} (hg : isG v h g G) (k : agr h h' g 6) : isG v h' g G := hg.frame k
theorem isP.agr {v : Ev} {h h' : Hp} {q : Nat} {L : GT} {gn : Nat → Int} {fn : Nat → Nat} (z : isP v h q L gn fn) (k : agr h h' q 9) : isP v h' q L gn fn := ⟨k.at z.1 (by omega) (by omega), z.2.1.agr (k.sub (by omega) (by omega)), k.at z.2.2.1 (by omega) (by omega), k.at z.2.2.2 (by omega) (by omega)⟩
theorem isE.agr {v : Ev} {h h' : Hp} {q k : Nat} {C : Nat → Int} {U : Nat → Nat} (z : isE v h q C U k) (f : agr h h' q 4) : isE v h' q C U k := ⟨f.at z.1 (by omega) (by omega), f.at z.2.1 (by omega) (by omega), f.at z.2.2.1 (by omega) (by omega), f.at z.2.2.2 (by omega) (by omega)⟩
theorem isSp.agr {v : Ev} {h h' : Hp} {q : Nat} {T nw nx : Nat → UInt32} {a b : Int} (z : isSp v h q T nw nx a b) (f : agr h h' q 5) : isSp v h' q T nw nx a b := ⟨f.at z.1 (by omega) (by omega), f.at z.2.1 (by omega) (by omega), f.at z.2.2.1 (by omega) (by omega), f.at z.2.2.2.1 (by omega) (by omega), f.at z.2.2.2.2 (by omega) (by omega)⟩
theorem isTk.agr {v : Ev} {h h' : Hp} {q : Nat} {t : TK} (z : isTk v h q t) (f : agr h h' q 5) : isTk v h' q t := ⟨f.at z.1 (by omega) (by omega), f.at z.2.1 (by omega) (by omega), f.at z.2.2.1 (by omega) (by omega), f.at z.2.2.2.1 (by omega) (by omega), f.at z.2.2.2.2 (by omega) (by omega)⟩
theorem isRd.agr {v : Ev} {h h' : Hp} {q : Nat} {R : RD} (z : isRd v h q R) (f : agr h h' q 14) : isRd v h' q R := ⟨f.at z.1 (by omega) (by omega), z.2.1.agr (f.sub (by omega) (by omega)), z.2.2.1.agr (f.sub (by omega) (by omega)), f.at z.2.2.2.1 (by omega) (by omega), f.at z.2.2.2.2 (by omega) (by omega)⟩
theorem isHi.agr {v : Ev} {h h' : Hp} {q p c : Nat} {Ks : Nat → GT} (z : isHi v h q p c Ks) (f : agr h h' q 50) : isHi v h' q p c Ks := ⟨f.at z.1 (by omega) (by omega), f.at z.2.1 (by omega) (by omega), fun i hi => (z.2.2 i hi).agr (f.sub (by unfold kA; omega) (by unfold kA; omega))⟩
def isCs (v : Ev) (h : Hp) (q : Nat) (s : Nat → Int) (T : Nat → Nat) : Prop := isC h v q s ∧ bdS s ∧ h (q + 2) = some (aI v 36 (iF T))
theorem isCs.agr {v : Ev} {h h' : Hp} {q : Nat} {s : Nat → Int} {T : Nat → Nat} (z : isCs v h q s T) (f : agr h h' q 3) : isCs v h' q s T := ⟨⟨f.at z.1.1 (by omega) (by omega), f.at z.1.2 (by omega) (by omega)⟩, z.2.1, f.at z.2.2 (by omega) (by omega)⟩
/-- the parts whose contents don't matter between two calls -/
def okQ (R : RD) : Prop := ((-128 ≤ R.kd ∧ R.kd ≤ 266) ∧ R.st ≤ 600 ∧ R.vl ≤ 10000 ∧ R.cl ≤ 600 ∧ R.wc ≤ 14) ∧ (∀ i, (-128 ≤ R.T.2.1.1 i ∧ R.T.2.1.1 i ≤ 266) ∧ R.T.2.1.2.1 i ≤ 600 ∧ R.T.2.1.2.2 i ≤ 10000) ∧ okG R.G ∧ (∀ k, -7 ≤ R.cd k ∧ R.cd k ≤ 10000) ∧ ∀ k, -128 ≤ R.wt k ∧ R.wt k ≤ 266
theorem okR.q {R : RD} (h : okR R) : okQ R := ⟨⟨h.1.2.1, h.1.2.2.1, h.1.2.2.2.1, h.1.2.2.2.2.2.1, h.1.2.2.2.2.2.2⟩, h.2.1.2.2, h.2.2.1, h.2.2.2⟩
theorem okQ.r {R : RD} (h : okQ R) {t : TK} (ht : okT t) : okR (RD.ini (R.1, t, R.2.2)) := ⟨⟨ht.1, h.1.1, h.1.2.1, h.1.2.2.1, Nat.zero_le _, h.1.2.2.2.1, h.1.2.2.2.2⟩, ht, h.2.2.1, h.2.2.2⟩
def qR (v : Ev) (h : Hp) (x : Nat) (b : Nat → Nat) (hd : Nat) : Prop := ∃ R : RD, isRd v h (x + 57) R ∧ okQ R ∧ R.T.1 = (b, hd)
def qC (v : Ev) (h : Hp) (x : Nat) : Prop := ∃ s T, isCs v h (x + 71) s T
def qP (v : Ev) (h : Hp) (x : Nat) : Prop := ∃ L gn fn, isP v h (x + 74) L gn fn
def qE (v : Ev) (h : Hp) (x : Nat) : Prop := ∃ C U k, isE v h (x + 83) C U k
def qA (h : Hp) (x : Nat) : Prop := ∃ a b, h (x + 87) = some (frE a b)
def qW (h : Hp) (x : Nat) : Prop := ∃ a b, h (x + 88) = some (frE a b)
def qN (v : Ev) (h : Hp) (x : Nat) : Prop := ∃ g, h (x + 89) = some (aJ v 6 (lF g))
def qS (h : Hp) (x : Nat) : Prop := ∃ e, h (x + 90) = some e ∧ ∃ dr pl sn ct su, e = stE dr pl sn ct su
def qF (v : Ev) (h : Hp) (x : Nat) : Prop := ∃ T nw nx a b, isSp v h (x + 91) T nw nx a b
def xE (x : Nat) (eo : Int) : va_E := ob 10 [.int (zI eo), .ref (x + 1), .ref (x + 7), .ref (x + 57), .ref (x + 71), .ref (x + 74), .ref (x + 83), .ref (x + 87), .ref (x + 88), .ref (x + 89), .ref (x + 90), .ref (x + 91)]
/-- the state that calls show: error's place; bytes, held; graph; the history's next, count, graphs -/
abbrev CS : Type := (Int × (Nat → Nat) × Nat) × GT × Nat × Nat × (Nat → GT)
def okX (v : Ev) (h : Hp) (x : Nat) (Z : CS) : Prop :=
  (h x = some (xE x Z.1.1) ∧ isG v h (x + 1) Z.2.1 ∧ isHi v h (x + 7) Z.2.2.1 Z.2.2.2.1 Z.2.2.2.2 ∧ qR v h x Z.1.2.1 Z.1.2.2) ∧
  (qC v h x ∧ qP v h x ∧ qE v h x ∧ qA h x ∧ qW h x) ∧ (qN v h x ∧ qS h x ∧ qF v h x)
theorem ag {h h' : Hp} {q n : Nat} (f : ∀ a, (a < q ∨ q + n ≤ a) → h' a = h a) {q2 n2 : Nat} (d : q2 + n2 ≤ q ∨ q + n ≤ q2) : agr h h' q2 n2 := fun a h1 h2 => f a (by omega)
theorem ag1 {h h' : Hp} {q n : Nat} (f : ∀ a, (a < q ∨ q + n ≤ a) → h' a = h a) {q2 : Nat} (d : q2 < q ∨ q + n ≤ q2) : h' q2 = h q2 := f q2 d
section
variable {v : Ev} {h h' : Hp} {x : Nat} {Z : CS}
theorem qR.agr {b : Nat → Nat} {hd : Nat} (z : qR v h x b hd) (f : agr h h' (x + 57) 14) : qR v h' x b hd := by obtain ⟨R, h1, h2⟩ := z; exact ⟨R, h1.agr f, h2⟩
theorem qC.agr (z : qC v h x) (f : agr h h' (x + 71) 3) : qC v h' x := by obtain ⟨s, T, h1⟩ := z; exact ⟨s, T, h1.agr f⟩
theorem qP.agr (z : qP v h x) (f : agr h h' (x + 74) 9) : qP v h' x := by obtain ⟨L, gn, fn, h1⟩ := z; exact ⟨L, gn, fn, h1.agr f⟩
theorem qE.agr (z : qE v h x) (f : agr h h' (x + 83) 4) : qE v h' x := by obtain ⟨C, U, k, h1⟩ := z; exact ⟨C, U, k, h1.agr f⟩
theorem qA.agr (z : qA h x) (f : h' (x + 87) = h (x + 87)) : qA h' x := by obtain ⟨a, b, h1⟩ := z; exact ⟨a, b, f.trans h1⟩
theorem qW.agr (z : qW h x) (f : h' (x + 88) = h (x + 88)) : qW h' x := by obtain ⟨a, b, h1⟩ := z; exact ⟨a, b, f.trans h1⟩
theorem qN.agr (z : qN v h x) (f : h' (x + 89) = h (x + 89)) : qN v h' x := by obtain ⟨a, h1⟩ := z; exact ⟨a, f.trans h1⟩
theorem qS.agr (z : qS h x) (f : h' (x + 90) = h (x + 90)) : qS h' x := by obtain ⟨a, h1, h2⟩ := z; exact ⟨a, f.trans h1, h2⟩
theorem qF.agr (z : qF v h x) (f : agr h h' (x + 91) 5) : qF v h' x := by obtain ⟨T, nw, nx, a, b, h1⟩ := z; exact ⟨T, nw, nx, a, b, h1.agr f⟩
theorem okX.frame (z : okX v h x Z) (f : agr h h' x 96) : okX v h' x Z := by
  obtain ⟨⟨z1, z2, z3, z4⟩, ⟨z5, z6, z7, z8, z9⟩, z10, z11, z12⟩ := z
  exact ⟨⟨f.at z1 (by omega) (by omega), z2.agr (f.sub (by omega) (by omega)), z3.agr (f.sub (by omega) (by omega)), z4.agr (f.sub (by omega) (by omega))⟩, ⟨z5.agr (f.sub (by omega) (by omega)), z6.agr (f.sub (by omega) (by omega)), z7.agr (f.sub (by omega) (by omega)), z8.agr (f _ (by omega) (by omega)), z9.agr (f _ (by omega) (by omega))⟩, z10.agr (f _ (by omega) (by omega)), z11.agr (f _ (by omega) (by omega)), z12.agr (f.sub (by omega) (by omega))⟩
theorem okX.u0 {e2 : Int} (z : okX v h x Z) (w : h' x = some (xE x e2)) (f : ∀ a, (a < x ∨ x + 1 ≤ a) → h' a = h a) : okX v h' x ((e2, Z.1.2), Z.2) := by
  obtain ⟨⟨z1, z2, z3, z4⟩, ⟨z5, z6, z7, z8, z9⟩, z10, z11, z12⟩ := z
  exact ⟨⟨w, z2.agr (ag f (by omega)), z3.agr (ag f (by omega)), z4.agr (ag f (by omega))⟩, ⟨z5.agr (ag f (by omega)), z6.agr (ag f (by omega)), z7.agr (ag f (by omega)), z8.agr (ag1 f (by omega)), z9.agr (ag1 f (by omega))⟩, z10.agr (ag1 f (by omega)), z11.agr (ag1 f (by omega)), z12.agr (ag f (by omega))⟩
theorem okX.uG {G2 : GT} (z : okX v h x Z) (w : isG v h' (x + 1) G2) (f : ∀ a, (a < x + 1 ∨ x + 1 + 6 ≤ a) → h' a = h a) : okX v h' x (Z.1, G2, Z.2.2) := by
  obtain ⟨⟨z1, z2, z3, z4⟩, ⟨z5, z6, z7, z8, z9⟩, z10, z11, z12⟩ := z
  exact ⟨⟨(ag1 f (by omega)).trans z1, w, z3.agr (ag f (by omega)), z4.agr (ag f (by omega))⟩, ⟨z5.agr (ag f (by omega)), z6.agr (ag f (by omega)), z7.agr (ag f (by omega)), z8.agr (ag1 f (by omega)), z9.agr (ag1 f (by omega))⟩, z10.agr (ag1 f (by omega)), z11.agr (ag1 f (by omega)), z12.agr (ag f (by omega))⟩
theorem okX.uH {p2 c2 : Nat} {K2 : Nat → GT} (z : okX v h x Z) (w : isHi v h' (x + 7) p2 c2 K2) (f : ∀ a, (a < x + 7 ∨ x + 7 + 50 ≤ a) → h' a = h a) : okX v h' x (Z.1, Z.2.1, p2, c2, K2) := by
  obtain ⟨⟨z1, z2, z3, z4⟩, ⟨z5, z6, z7, z8, z9⟩, z10, z11, z12⟩ := z
  exact ⟨⟨(ag1 f (by omega)).trans z1, z2.agr (ag f (by omega)), w, z4.agr (ag f (by omega))⟩, ⟨z5.agr (ag f (by omega)), z6.agr (ag f (by omega)), z7.agr (ag f (by omega)), z8.agr (ag1 f (by omega)), z9.agr (ag1 f (by omega))⟩, z10.agr (ag1 f (by omega)), z11.agr (ag1 f (by omega)), z12.agr (ag f (by omega))⟩
theorem okX.uR {b2 : Nat → Nat} {n2 : Nat} (z : okX v h x Z) (w : qR v h' x b2 n2) (f : ∀ a, (a < x + 57 ∨ x + 57 + 14 ≤ a) → h' a = h a) : okX v h' x ((Z.1.1, b2, n2), Z.2) := by
  obtain ⟨⟨z1, z2, z3, z4⟩, ⟨z5, z6, z7, z8, z9⟩, z10, z11, z12⟩ := z
  exact ⟨⟨(ag1 f (by omega)).trans z1, z2.agr (ag f (by omega)), z3.agr (ag f (by omega)), w⟩, ⟨z5.agr (ag f (by omega)), z6.agr (ag f (by omega)), z7.agr (ag f (by omega)), z8.agr (ag1 f (by omega)), z9.agr (ag1 f (by omega))⟩, z10.agr (ag1 f (by omega)), z11.agr (ag1 f (by omega)), z12.agr (ag f (by omega))⟩
theorem okX.uC (z : okX v h x Z) (w : qC v h' x) (f : ∀ a, (a < x + 71 ∨ x + 71 + 3 ≤ a) → h' a = h a) : okX v h' x Z := by
  obtain ⟨⟨z1, z2, z3, z4⟩, ⟨z5, z6, z7, z8, z9⟩, z10, z11, z12⟩ := z
  exact ⟨⟨(ag1 f (by omega)).trans z1, z2.agr (ag f (by omega)), z3.agr (ag f (by omega)), z4.agr (ag f (by omega))⟩, ⟨w, z6.agr (ag f (by omega)), z7.agr (ag f (by omega)), z8.agr (ag1 f (by omega)), z9.agr (ag1 f (by omega))⟩, z10.agr (ag1 f (by omega)), z11.agr (ag1 f (by omega)), z12.agr (ag f (by omega))⟩
theorem okX.uP (z : okX v h x Z) (w : qP v h' x) (f : ∀ a, (a < x + 74 ∨ x + 74 + 9 ≤ a) → h' a = h a) : okX v h' x Z := by
  obtain ⟨⟨z1, z2, z3, z4⟩, ⟨z5, z6, z7, z8, z9⟩, z10, z11, z12⟩ := z
  exact ⟨⟨(ag1 f (by omega)).trans z1, z2.agr (ag f (by omega)), z3.agr (ag f (by omega)), z4.agr (ag f (by omega))⟩, ⟨z5.agr (ag f (by omega)), w, z7.agr (ag f (by omega)), z8.agr (ag1 f (by omega)), z9.agr (ag1 f (by omega))⟩, z10.agr (ag1 f (by omega)), z11.agr (ag1 f (by omega)), z12.agr (ag f (by omega))⟩
theorem okX.uE (z : okX v h x Z) (w : qE v h' x) (f : ∀ a, (a < x + 83 ∨ x + 83 + 4 ≤ a) → h' a = h a) : okX v h' x Z := by
  obtain ⟨⟨z1, z2, z3, z4⟩, ⟨z5, z6, z7, z8, z9⟩, z10, z11, z12⟩ := z
  exact ⟨⟨(ag1 f (by omega)).trans z1, z2.agr (ag f (by omega)), z3.agr (ag f (by omega)), z4.agr (ag f (by omega))⟩, ⟨z5.agr (ag f (by omega)), z6.agr (ag f (by omega)), w, z8.agr (ag1 f (by omega)), z9.agr (ag1 f (by omega))⟩, z10.agr (ag1 f (by omega)), z11.agr (ag1 f (by omega)), z12.agr (ag f (by omega))⟩
theorem okX.uA (z : okX v h x Z) (w : qA h' x) (f : ∀ a, (a < x + 87 ∨ x + 87 + 1 ≤ a) → h' a = h a) : okX v h' x Z := by
  obtain ⟨⟨z1, z2, z3, z4⟩, ⟨z5, z6, z7, z8, z9⟩, z10, z11, z12⟩ := z
  exact ⟨⟨(ag1 f (by omega)).trans z1, z2.agr (ag f (by omega)), z3.agr (ag f (by omega)), z4.agr (ag f (by omega))⟩, ⟨z5.agr (ag f (by omega)), z6.agr (ag f (by omega)), z7.agr (ag f (by omega)), w, z9.agr (ag1 f (by omega))⟩, z10.agr (ag1 f (by omega)), z11.agr (ag1 f (by omega)), z12.agr (ag f (by omega))⟩
theorem okX.uW (z : okX v h x Z) (w : qW h' x) (f : ∀ a, (a < x + 88 ∨ x + 88 + 1 ≤ a) → h' a = h a) : okX v h' x Z := by
  obtain ⟨⟨z1, z2, z3, z4⟩, ⟨z5, z6, z7, z8, z9⟩, z10, z11, z12⟩ := z
  exact ⟨⟨(ag1 f (by omega)).trans z1, z2.agr (ag f (by omega)), z3.agr (ag f (by omega)), z4.agr (ag f (by omega))⟩, ⟨z5.agr (ag f (by omega)), z6.agr (ag f (by omega)), z7.agr (ag f (by omega)), z8.agr (ag1 f (by omega)), w⟩, z10.agr (ag1 f (by omega)), z11.agr (ag1 f (by omega)), z12.agr (ag f (by omega))⟩
theorem okX.uN (z : okX v h x Z) (w : qN v h' x) (f : ∀ a, (a < x + 89 ∨ x + 89 + 1 ≤ a) → h' a = h a) : okX v h' x Z := by
  obtain ⟨⟨z1, z2, z3, z4⟩, ⟨z5, z6, z7, z8, z9⟩, z10, z11, z12⟩ := z
  exact ⟨⟨(ag1 f (by omega)).trans z1, z2.agr (ag f (by omega)), z3.agr (ag f (by omega)), z4.agr (ag f (by omega))⟩, ⟨z5.agr (ag f (by omega)), z6.agr (ag f (by omega)), z7.agr (ag f (by omega)), z8.agr (ag1 f (by omega)), z9.agr (ag1 f (by omega))⟩, w, z11.agr (ag1 f (by omega)), z12.agr (ag f (by omega))⟩
theorem okX.uS (z : okX v h x Z) (w : qS h' x) (f : ∀ a, (a < x + 90 ∨ x + 90 + 1 ≤ a) → h' a = h a) : okX v h' x Z := by
  obtain ⟨⟨z1, z2, z3, z4⟩, ⟨z5, z6, z7, z8, z9⟩, z10, z11, z12⟩ := z
  exact ⟨⟨(ag1 f (by omega)).trans z1, z2.agr (ag f (by omega)), z3.agr (ag f (by omega)), z4.agr (ag f (by omega))⟩, ⟨z5.agr (ag f (by omega)), z6.agr (ag f (by omega)), z7.agr (ag f (by omega)), z8.agr (ag1 f (by omega)), z9.agr (ag1 f (by omega))⟩, z10.agr (ag1 f (by omega)), w, z12.agr (ag f (by omega))⟩
theorem okX.uF (z : okX v h x Z) (w : qF v h' x) (f : ∀ a, (a < x + 91 ∨ x + 91 + 5 ≤ a) → h' a = h a) : okX v h' x Z := by
  obtain ⟨⟨z1, z2, z3, z4⟩, ⟨z5, z6, z7, z8, z9⟩, z10, z11, z12⟩ := z
  exact ⟨⟨(ag1 f (by omega)).trans z1, z2.agr (ag f (by omega)), z3.agr (ag f (by omega)), z4.agr (ag f (by omega))⟩, ⟨z5.agr (ag f (by omega)), z6.agr (ag f (by omega)), z7.agr (ag f (by omega)), z8.agr (ag1 f (by omega)), z9.agr (ag1 f (by omega))⟩, z10.agr (ag1 f (by omega)), z11.agr (ag1 f (by omega)), w⟩
end

