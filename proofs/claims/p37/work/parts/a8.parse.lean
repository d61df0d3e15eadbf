/-! ===== the law's text, as the component's reader takes it ===== -/
/-- the tokens ts lie in front of the reader, to the end -/
def At (R : RD) (ts : List (Int × Nat)) : Prop := R.nx + ts.length = R.T.2.2 ∧ ∀ i t, ts[i]? = some t → R.T.2.1.1 (R.nx + i) = t.1 ∧ R.T.2.1.2.2 (R.nx + i) = t.2
section
variable {R : RD} {t u : Int × Nat} {ts : List (Int × Nat)}
theorem At.kd (h : At R (t :: ts)) : R.take.kd = t.1 ∧ R.take.vl = t.2 := by
  have := h.2 0 t rfl
  exact this
theorem At.take (h : At R (t :: u :: ts)) : At R.take (u :: ts) := by
  obtain ⟨h1, h2⟩ := h
  rw [List.length_cons, List.length_cons] at h1
  have e : R.take.nx = R.nx + 1 := by
    show (if R.nx < R.T.2.2 - 1 then R.nx + 1 else R.nx) = _
    rw [if_pos (by omega)]
  constructor
  · rw [e, List.length_cons]
    show _ = R.T.2.2
    omega
  · intro i x hx
    have := h2 (i + 1) x (by rw [List.getElem?_cons_succ]; exact hx)
    rw [e, show R.nx + 1 + i = R.nx + (i + 1) by omega]
    exact this
theorem At.of {R' : RD} (h : At R ts) (e1 : R'.T = R.T) (e2 : R'.nx = R.nx) : At R' ts := by
  unfold At at *
  rw [e1, e2]
  exact h
theorem pz_num {a b x : Nat} (h : At R ((257, x) :: ts)) (h1 : a ≤ x) (h2 : x ≤ b) : rdNum a b R = (true, R.take) := by
  obtain ⟨k1, k2⟩ := h.kd
  unfold rdNum
  rw [if_neg (by rw [k1]; exact fun z => z rfl), if_neg (by rw [k2]; show ¬ (x < a ∨ b < x); omega)]
theorem pz_vtx {x : Nat} (h : At R ((257, x) :: ts)) (h1 : x < R.G.n) : rdVtx R = (true, R.take) := pz_num h (Nat.zero_le _) (by omega)
theorem pz_semi (h : At R ((59, 0) :: ts)) : rdSemi R = (true, R.take) := by
  unfold rdSemi
  rw [if_pos h.kd.1]
theorem tNF {α : Type} {x : α} : ¬ (((true, x) : Bool × α).1 = false) := fun z => nomatch z
theorem take_G (R : RD) : R.take.G = R.G := rfl
theorem take_hc (R : RD) : R.take.hc = R.hc := rfl
/-- an edge's statement -/
theorem pz_edge {p q w F : Nat} (h : At R ((257, p) :: (257, q) :: (257, w) :: (59, 0) :: u :: ts)) (k : R.kd = 259) (hp : p < R.G.n) (hq : q < R.G.n) (hpq : p ≠ q) (h0 : R.G.W (p * 6 + q) = 0) (hw : 1 ≤ w ∧ w ≤ 9) (he : R.G.e < 15) : ∃ R', rdStm F R = (true, R') ∧ At R' (u :: ts) ∧ R'.G = R.G.addE p q w ∧ R'.hc = R.hc := by
  have a1 := h.take
  have a2 := a1.take
  have a3 := a2.take
  have e1 := pz_vtx h hp
  have e2 : rdVtx R.take = (true, R.take.take) := pz_vtx a1 hq
  have e3 : rdNum 1 9 R.take.take = (true, R.take.take.take) := pz_num a2 hw.1 hw.2
  have v1 : R.take.vl = p := h.kd.2
  have v2 : R.take.take.vl = q := a1.kd.2
  have v3 : R.take.take.take.vl = w := a2.kd.2
  have ee : rdEdge R = (true, R.take.take.take.sG (R.G.addE p q w)) := by
    unfold rdEdge
    rw [e1]
    dsimp only
    rw [e2]
    dsimp only
    rw [e3, v1, v2, v3, if_neg (by decide), if_neg (by decide), if_neg (by omega), if_neg tNF]
    unfold GT.adE
    rw [if_pos he]
  have a4 : At (R.take.take.take.sG (R.G.addE p q w)) ((59, 0) :: u :: ts) := a3.of rfl rfl
  refine ⟨(R.take.take.take.sG (R.G.addE p q w)).take, ?_, a4.take, rfl, rfl⟩
  unfold rdStm
  rw [if_pos k, ee]
  dsimp only
  rw [if_neg (by decide), pz_semi a4]
theorem pz_abs {x F : Nat} (h : At R ((257, x) :: (59, 0) :: u :: ts)) (k : R.kd = 260) (hp : x < R.G.n) (h0 : R.G.a.testBit x = false) : ∃ R', rdStm F R = (true, R') ∧ At R' (u :: ts) ∧ R'.G = R.G.sc R.G.n R.G.e (R.G.a ||| 2 ^ x) R.G.b ∧ R'.hc = R.hc := by
  have a1 := h.take
  have e1 := pz_vtx h hp
  have v1 : R.take.vl = x := h.kd.2
  have ee : rdAbs R = (true, R.take.sG (R.G.sc R.G.n R.G.e (R.G.a ||| 2 ^ x) R.G.b)) := by
    unfold rdAbs
    rw [e1]
    dsimp only
    rw [v1, h0, if_neg (by decide), if_neg (by decide)]
  have a4 : At (R.take.sG (R.G.sc R.G.n R.G.e (R.G.a ||| 2 ^ x) R.G.b)) ((59, 0) :: u :: ts) := a1.of rfl rfl
  refine ⟨(R.take.sG (R.G.sc R.G.n R.G.e (R.G.a ||| 2 ^ x) R.G.b)).take, ?_, a4.take, rfl, rfl⟩
  unfold rdStm
  rw [if_neg (by rw [k]; decide), if_pos k, ee]
  dsimp only
  rw [if_neg (by decide), pz_semi a4]
end
/-- edges that may be added one behind the other -/
def vE (n : Nat) : (Nat → Nat) → List (Nat × Nat × Nat) → Prop
  | _, [] => True
  | W, e :: l => e.1 < n ∧ e.2.1 < n ∧ e.1 ≠ e.2.1 ∧ W (e.1 * 6 + e.2.1) = 0 ∧ (1 ≤ e.2.2 ∧ e.2.2 ≤ 9) ∧ vE n (pWt W e.1 e.2.1 e.2.2) l
def vA (n : Nat) : Nat → List Nat → Prop
  | _, [] => True
  | a, x :: l => x < n ∧ a.testBit x = false ∧ vA n (a ||| 2 ^ x) l
def adG (G : GT) (E : List (Nat × Nat × Nat)) : GT := E.foldl (fun G e => G.addE e.1 e.2.1 e.2.2) G
def abG (G : GT) (A : List Nat) : GT := A.foldl (fun G x => G.sc G.n G.e (G.a ||| 2 ^ x) G.b) G
theorem pz_step {F f k : Nat} {R R' : RD} {ts : List (Int × Nat)} {x : Nat} (h : At R ((k, x) :: ts)) (hk : k ≠ 256) (e : rdStm F R.take = (true, R')) : rdL F (f + 1) R = rdL F f R' := by
  rw [rdL, if_neg (by rw [h.kd.1]; show (k : Int) ≠ 256; omega), e]
  dsimp only
  rw [if_neg (by decide)]
theorem pz_eds {F f : Nat} {u : Int × Nat} {ts : List (Int × Nat)} : ∀ (E : List (Nat × Nat × Nat)) (R : RD), At R (edK E ++ u :: ts) → vE R.G.n R.G.W E → R.G.e + E.length ≤ 15 → ∃ R', rdL F (f + E.length) R = rdL F f R' ∧ At R' (u :: ts) ∧ R'.G = adG R.G E ∧ R'.hc = R.hc
  | [], R, h, _, _ => ⟨R, rfl, h, rfl, rfl⟩
  | e :: E, R, h, hv, hl => by
    obtain ⟨v1, v2, v3, v4, v5, v6⟩ := hv
    rw [List.length_cons] at hl
    have hne : ∃ u' ts', edK E ++ u :: ts = u' :: ts' := by
      cases hE : edK E with
      | nil => exact ⟨u, ts, rfl⟩
      | cons x l => exact ⟨x, l ++ u :: ts, rfl⟩
    obtain ⟨u', ts', eT⟩ := hne
    have h' : At R ((259, 0) :: (257, e.1) :: (257, e.2.1) :: (257, e.2.2) :: (59, 0) :: u' :: ts') := by
      have e0 : edK (e :: E) ++ u :: ts = edTk e.1 e.2.1 e.2.2 ++ (edK E ++ u :: ts) := by
        show (edTk e.1 e.2.1 e.2.2 ++ edK E) ++ _ = _
        rw [List.append_assoc]
      rw [e0, eT] at h
      exact h
    obtain ⟨R1, q1, q2, q3, q4⟩ := pz_edge (F := F) h'.take h'.kd.1 v1 v2 v3 v4 v5 (by show R.G.e < 15; omega)
    have q3' : R1.G = R.G.addE e.1 e.2.1 e.2.2 := q3
    obtain ⟨R2, p1, p2, p3, p4⟩ := pz_eds E R1 (by rw [eT]; exact q2) (by rw [q3']; exact v6) (by rw [q3']; show R.G.e + 1 + E.length ≤ 15; omega)
    refine ⟨R2, ?_, p2, ?_, p4.trans q4⟩
    · rw [List.length_cons, show f + (E.length + 1) = f + E.length + 1 by omega, pz_step h' (by decide) q1, p1]
    · rw [p3, q3']
      rfl
theorem pz_abss {F f : Nat} {u : Int × Nat} {ts : List (Int × Nat)} : ∀ (A : List Nat) (R : RD), At R (abK' A ++ u :: ts) → vA R.G.n R.G.a A → ∃ R', rdL F (f + A.length) R = rdL F f R' ∧ At R' (u :: ts) ∧ R'.G = abG R.G A ∧ R'.hc = R.hc
  | [], R, h, _ => ⟨R, rfl, h, rfl, rfl⟩
  | x :: A, R, h, hv => by
    obtain ⟨v1, v2, v3⟩ := hv
    have hne : ∃ u' ts', abK' A ++ u :: ts = u' :: ts' := by
      cases hE : abK' A with
      | nil => exact ⟨u, ts, rfl⟩
      | cons x l => exact ⟨x, l ++ u :: ts, rfl⟩
    obtain ⟨u', ts', eT⟩ := hne
    have h' : At R ((260, 0) :: (257, x) :: (59, 0) :: u' :: ts') := by
      have e0 : abK' (x :: A) ++ u :: ts = abTk x ++ (abK' A ++ u :: ts) := by
        show (abTk x ++ abK' A) ++ _ = _
        rw [List.append_assoc]
      rw [e0, eT] at h
      exact h
    obtain ⟨R1, q1, q2, q3, q4⟩ := pz_abs (F := F) h'.take h'.kd.1 v1 v2
    have q3' : R1.G = R.G.sc R.G.n R.G.e (R.G.a ||| 2 ^ x) R.G.b := q3
    obtain ⟨R2, p1, p2, p3, p4⟩ := pz_abss A R1 (by rw [eT]; exact q2) (by rw [q3']; exact v3)
    refine ⟨R2, ?_, p2, ?_, p4.trans q4⟩
    · rw [List.length_cons, show f + (A.length + 1) = f + A.length + 1 by omega, pz_step h' (by decide) q1, p1]
    · rw [p3, q3']
      rfl
/-- a reader inside the cost statement: tokens ahead, codes so far, operators waiting -/
def Rs (R : RD) (ts : List (Int × Nat)) (G : GT) (cs : List Int) (st : List Int) : Prop := At R ts ∧ R.G = G ∧ R.hc = 1 ∧ (R.cl = cs.length ∧ ∀ i x, cs[i]? = some x → R.cd i = x) ∧ R.wc = st.length ∧ ∀ i x, st.reverse[i]? = some x → R.wt i = x
section
variable {R : RD} {t u : Int × Nat} {ts : List (Int × Nat)} {G : GT} {cs st : List Int}
theorem Rs.take (h : Rs R (t :: u :: ts) G cs st) : Rs R.take (u :: ts) G cs st := ⟨h.1.take, h.2⟩
theorem Rs.emit (h : Rs R ts G cs st) {x : Int} (hl : cs.length < 600) : Rs (R.emit x) ts G (cs ++ [x]) st := by
  obtain ⟨h1, h2, h3, ⟨h4, h5⟩, h6⟩ := h
  have e : R.emit x = ((R.1.1, R.1.2.1, (R.hc, R.cl + 1, R.wc)), R.T, R.G, upZ R.cd R.cl x, R.wt) := if_pos (by omega)
  rw [e]
  refine ⟨h1.of rfl rfl, h2, h3, ⟨?_, fun i y hy => ?_⟩, h6⟩
  · show R.cl + 1 = _
    rw [List.length_append, h4]
    rfl
  · show upZ R.cd R.cl x i = y
    by_cases c : i < cs.length
    · rw [upZ_ne _ _ (by omega)]
      rw [List.getElem?_append_left c] at hy
      exact h5 i y hy
    · rw [List.getElem?_append_right (by omega)] at hy
      have c2 : i = cs.length := by
        by_cases c3 : i - cs.length = 0
        · omega
        · rw [List.getElem?_eq_none (by show 1 ≤ _; omega)] at hy
          cases hy
      rw [c2, Nat.sub_self] at hy
      have : x = y := by simpa using hy
      rw [c2, ← h4, upZ_eq, this]
theorem Rs.push (h : Rs R ts G cs st) {x : Int} (hl : st.length < 14) : Rs (R.push x) ts G cs (x :: st) := by
  obtain ⟨h1, h2, h3, h4, h5, h6⟩ := h
  have e : R.push x = ((R.1.1, R.1.2.1, (R.hc, R.cl, R.wc + 1)), R.T, R.G, R.cd, upZ R.wt R.wc x) := if_pos (by omega)
  rw [e]
  refine ⟨h1.of rfl rfl, h2, h3, h4, ?_, fun i y hy => ?_⟩
  · show R.wc + 1 = _
    rw [List.length_cons, h5]
  · show upZ R.wt R.wc x i = y
    rw [List.reverse_cons] at hy
    by_cases c : i < st.length
    · rw [upZ_ne _ _ (by omega)]
      rw [List.getElem?_append_left (by rw [List.length_reverse]; exact c)] at hy
      exact h6 i y hy
    · rw [List.getElem?_append_right (by rw [List.length_reverse]; omega), List.length_reverse] at hy
      have c2 : i = st.length := by
        by_cases c3 : i - st.length = 0
        · omega
        · rw [List.getElem?_eq_none (by show 1 ≤ _; omega)] at hy
          cases hy
      rw [c2, Nat.sub_self] at hy
      have : x = y := by simpa using hy
      rw [c2, ← h5, upZ_eq, this]
theorem Rs.top {x : Int} (h : Rs R ts G cs (x :: st)) : R.wt (R.wc - 1) = x := by
  rw [h.2.2.2.2.1]
  refine h.2.2.2.2.2 _ x ?_
  rw [List.length_cons, Nat.add_sub_cancel, List.reverse_cons, List.getElem?_append_right (by rw [List.length_reverse]; omega), List.length_reverse, Nat.sub_self]
  rfl
theorem Rs.pop {x : Int} (h : Rs R ts G cs (x :: st)) (hl : cs.length < 600) : Rs R.pop1 ts G (cs ++ [oprI x]) st := by
  have e : R.pop1 = (R.sWc (R.wc - 1)).emit (oprI x) := by
    unfold RD.pop1
    rw [h.top]
  rw [e]
  refine Rs.emit ?_ hl
  obtain ⟨h1, h2, h3, h4, h5, h6⟩ := h
  refine ⟨h1.of rfl rfl, h2, h3, h4, ?_, fun i y hy => h6 i y ?_⟩
  · show R.wc - 1 = _
    rw [h5, List.length_cons]
    omega
  · have hi : i < st.length := by
      have := List.getElem?_eq_some_iff.mp hy
      obtain ⟨k, -⟩ := this
      rw [List.length_reverse] at k
      exact k
    rw [List.reverse_cons, List.getElem?_append_left (by rw [List.length_reverse]; exact hi)]
    exact hy
/-- the release of waiting operators, on lists -/
def relL (s : Nat) : List Int → List Int → List Int × List Int
  | cs, [] => (cs, [])
  | cs, x :: st => if s ≤ str x then relL s (cs ++ [oprI x]) st else (cs, x :: st)
theorem Rs.relF {s : Nat} : ∀ (st cs : List Int) (R : RD), Rs R ts G cs st → cs.length + st.length ≤ 600 → Rs (RD.relF s st.length R) ts G (relL s cs st).1 (relL s cs st).2
  | [], cs, R, h, _ => h
  | x :: st, cs, R, h, hl => by
    rw [List.length_cons] at hl
    have hw := h.2.2.2.2.1
    rw [List.length_cons] at hw
    rw [List.length_cons, RD.relF, relL, h.top]
    by_cases c : s ≤ str x
    · rw [if_pos ⟨by omega, c⟩, if_pos c]
      exact Rs.relF st _ _ (h.pop (by omega)) (by rw [List.length_append]; show cs.length + 1 + st.length ≤ 600; omega)
    · rw [if_neg (fun z => c z.2), if_neg c]
      exact h
theorem Rs.rel (h : Rs R ts G cs st) (s : Nat) (hl : cs.length + st.length ≤ 600) : Rs (R.rel s) ts G (relL s cs st).1 (relL s cs st).2 := by
  unfold RD.rel
  rw [h.2.2.2.2.1]
  exact Rs.relF st cs R h hl
/-- a factor -/
theorem pz_fac {f nest : Nat} {c : Int} (h : Rs R (t :: u :: ts) G cs st) (hl : cs.length < 600) (ht : t.1 = 257 ∧ t.2 ≤ 9999 ∧ c = t.2 ∨ t.1 = 263 ∧ c = -1 ∨ t.1 = 264 ∧ c = -2 ∨ t.1 = 265 ∧ c = -3) : ∃ R', rdC (f + 1) nest true R = rdC f nest false R' ∧ Rs R' (u :: ts) G (cs ++ [c]) st := by
  obtain ⟨k1, k2⟩ := h.1.kd
  have e : rdFac R.take = (true, R.take.emit c) := by
    unfold rdFac
    rw [k1, k2]
    rcases ht with ⟨q1, q2, q3⟩ | ⟨q1, q3⟩ | ⟨q1, q3⟩ | ⟨q1, q3⟩ <;> rw [q1, q3]
    · rw [if_pos rfl, if_neg (by omega)]
    · rfl
    · rfl
    · rfl
  refine ⟨R.take.emit c, ?_, h.take.emit hl⟩
  rw [rdC, if_pos rfl, if_neg (by rw [k1]; omega), e]
  dsimp only
  rw [if_pos rfl]
theorem pz_op {f nest : Nat} (h : Rs R (t :: u :: ts) G cs st) (hl : cs.length + st.length ≤ 600) (ht : 0 < str t.1) (h14 : (relL (str t.1) cs st).2.length < 14) : ∃ R', rdC (f + 1) nest false R = rdC f nest true R' ∧ Rs R' (u :: ts) G (relL (str t.1) cs st).1 (t.1 :: (relL (str t.1) cs st).2) := by
  obtain ⟨k1, k2⟩ := h.1.kd
  refine ⟨(R.take.rel (str t.1)).push t.1, ?_, (h.take.rel _ hl).push h14⟩
  rw [rdC, if_neg (by decide), k1, if_pos ht]
theorem pz_fin {f : Nat} (h : Rs R ((59, 0) :: u :: ts) G cs st) (hl : cs.length + st.length ≤ 600) : ∃ R', rdC (f + 1) 0 false R = (true, R') ∧ Rs R' (u :: ts) G (relL 1 cs st).1 (relL 1 cs st).2 := by
  obtain ⟨k1, k2⟩ := h.1.kd
  refine ⟨R.take.rel 1, ?_, h.take.rel 1 hl⟩
  have k1' : R.take.kd = 59 := k1
  rw [rdC, if_neg (by decide), k1', if_neg (by decide), if_neg (by decide), if_pos ⟨rfl, rfl⟩]
end
/-- the codes of the law's cost -/
def lwC : List Int := [3, -3, -6, -2, -5, -1, 2, -7, -4]
theorem pz_cost {F f : Nat} {R : RD} (h : At R (coTk ++ [(256, 0)])) (hc : R.hc = 0) : ∃ R', rdL F (f + 2) R = (true, R') ∧ R'.G = R.G.sF F ∧ R'.hc = 1 ∧ R'.cl = 9 ∧ ∀ i x, lwC[i]? = some x → R'.cd i = x := by
  have h0 : Rs R.take.beg [(257, 3), (42, 0), (265, 0), (45, 0), (264, 0), (43, 0), (263, 0), (47, 0), (257, 2), (59, 0), (256, 0)] R.G [] [] := by
    refine ⟨(At.take (u := (257, 3)) h).of rfl rfl, rfl, rfl, ⟨rfl, fun i x hx => ?_⟩, rfl, fun i x hx => ?_⟩
    · cases hx
    · cases hx
  have hT : 12 ≤ R.T.2.2 := by
    have := h.1
    have e12 : List.length (α := Int × Nat) (coTk ++ [(256, 0)]) = 12 := rfl
    rw [e12] at this
    omega
  obtain ⟨g, hg⟩ : ∃ g, R.T.2.2 = g + 10 := ⟨R.T.2.2 - 10, by omega⟩
  obtain ⟨R1, e1, h1⟩ := pz_fac (f := g + 9) (nest := 0) (c := 3) h0 (by decide) (by decide)
  obtain ⟨R2, e2, h2⟩ := pz_op (f := g + 8) (nest := 0) h1 (by decide) (by decide) (by decide)
  obtain ⟨R3, e3, h3⟩ := pz_fac (f := g + 7) (nest := 0) (c := -3) h2 (by decide) (by decide)
  obtain ⟨R4, e4, h4⟩ := pz_op (f := g + 6) (nest := 0) h3 (by decide) (by decide) (by decide)
  obtain ⟨R5, e5, h5⟩ := pz_fac (f := g + 5) (nest := 0) (c := -2) h4 (by decide) (by decide)
  obtain ⟨R6, e6, h6⟩ := pz_op (f := g + 4) (nest := 0) h5 (by decide) (by decide) (by decide)
  obtain ⟨R7, e7, h7⟩ := pz_fac (f := g + 3) (nest := 0) (c := -1) h6 (by decide) (by decide)
  obtain ⟨R8, e8, h8⟩ := pz_op (f := g + 2) (nest := 0) h7 (by decide) (by decide) (by decide)
  obtain ⟨R9, e9, h9⟩ := pz_fac (f := g + 1) (nest := 0) (c := 2) h8 (by decide) (by decide)
  obtain ⟨R10, e10, h10⟩ := pz_fin (f := g) h9 (by decide)
  have eC : rdCost R.take = (true, R10) := by
    unfold rdCost
    rw [take_hc, hc, if_neg (by decide)]
    show rdC R.T.2.2 0 true R.take.beg = _
    rw [hg, e1, e2, e3, e4, e5, e6, e7, e8, e9, e10]
  have eS : rdStm F R.take = (true, R10.sG (R10.G.sF F)) := by
    have k : R.take.kd = 262 := h.kd.1
    unfold rdStm
    rw [k, if_neg (by decide), if_neg (by decide), if_neg (by decide), if_pos rfl, eC]
    dsimp only
    rw [if_neg (by decide)]
  have a10 : At (R10.sG (R10.G.sF F)) [(256, 0)] := h10.1.of rfl rfl
  have eL : rdL F (f + 2) R = (true, (R10.sG (R10.G.sF F)).take) := by
    rw [show f + 2 = (f + 1) + 1 from rfl, pz_step (k := 262) (x := 0) (ts := [(257, 3), (42, 0), (265, 0), (45, 0), (264, 0), (43, 0), (263, 0), (47, 0), (257, 2), (59, 0), (256, 0)]) h (by decide) eS]
    rw [rdL, if_pos (show _ = (256 : Int) from a10.kd.1)]
  refine ⟨(R10.sG (R10.G.sF F)).take, eL, ?_, h10.2.2.1, h10.2.2.2.1.1, fun i x hx => h10.2.2.2.1.2 i x ?_⟩
  · show R10.G.sF F = _
    rw [h10.2.1]
  · exact hx
/-- the whole text -/
theorem pz_all {v : Ev} {F n : Nat} {E : List (Nat × Nat × Nat)} {A : List Nat} {R : RD} (hn : 2 ≤ n ∧ n ≤ 6) (hT : R.T.2.2 = (lwTk n E A).length) (hk : ∀ i t, (lwTk n E A)[i]? = some t → R.T.2.1.1 i = t.1 ∧ R.T.2.1.2.2 i = t.2) (hE : vE n (filF R.G.W 36 0) E) (hl : E.length ≤ 15) (hA : vA n 0 A) : ∃ R', rdSetup v F R = (true, R') ∧ R'.G = (abG (adG (R.G.cl0 v n 6) E) A).sF F ∧ R'.hc = 1 ∧ R'.cl = 9 ∧ ∀ i x, lwC[i]? = some x → R'.cd i = x := by
  have hne1 : ∃ u ts, edK E ++ (abK' A ++ (coTk ++ [(256, 0)])) = u :: ts := by
    cases edK E with
    | cons x l => exact ⟨_, _, rfl⟩
    | nil =>
      cases abK' A with
      | cons x l => exact ⟨_, _, rfl⟩
      | nil => exact ⟨_, _, rfl⟩
  obtain ⟨u1, ts1, eT1⟩ := hne1
  have hne2 : ∃ u ts, abK' A ++ (coTk ++ [(256, 0)]) = u :: ts := by
    cases abK' A with
    | cons x l => exact ⟨_, _, rfl⟩
    | nil => exact ⟨_, _, rfl⟩
  obtain ⟨u2, ts2, eT2⟩ := hne2
  have a0 : At R.ini ((258, 0) :: (257, n) :: (59, 0) :: u1 :: ts1) := by
    have e : lwTk n E A = (258, 0) :: (257, n) :: (59, 0) :: u1 :: ts1 := by
      unfold lwTk
      rw [eT1]
      rfl
    rw [e] at hT hk
    refine ⟨?_, fun i t ht => ?_⟩
    · show 0 + _ = R.T.2.2
      rw [Nat.zero_add, hT]
    · show R.T.2.1.1 (0 + i) = _ ∧ R.T.2.1.2.2 (0 + i) = _
      rw [Nat.zero_add]
      exact hk i t ht
  have a1 := a0.take
  have a2 := a1.take
  have eN : rdNum 2 6 R.ini.take = (true, R.ini.take.take) := pz_num a1 hn.1 hn.2
  have vN : R.ini.take.take.vl = n := a1.kd.2
  have a2' : At (R.ini.take.take.clr v) ((59, 0) :: u1 :: ts1) := a2.of rfl rfl
  have eG : ((R.ini.take.take.clr v).take).G = R.G.cl0 v n 6 := by
    show R.G.cl0 v R.ini.take.take.vl 6 = _
    rw [vN]
  have a3 : At ((R.ini.take.take.clr v).take) (edK E ++ u2 :: ts2) := by
    rw [← eT2, eT1]
    exact a2'.take
  have hlen : R.T.2.2 = 3 + 5 * E.length + 3 * A.length + 12 := by
    rw [hT]
    unfold lwTk
    have h1 : ∀ l, (edK l).length = 5 * l.length := by
      intro l
      induction l with
      | nil => rfl
      | cons e l ih => show (edTk e.1 e.2.1 e.2.2 ++ edK l).length = _; rw [List.length_append, ih, List.length_cons, show (edTk e.1 e.2.1 e.2.2).length = 5 from rfl]; omega
    have h2 : ∀ l, (abK' l).length = 3 * l.length := by
      intro l
      induction l with
      | nil => rfl
      | cons e l ih => show (abTk e ++ abK' l).length = _; rw [List.length_append, ih, List.length_cons, show (abTk e).length = 3 from rfl]; omega
    have e12 : List.length (α := Int × Nat) (coTk ++ [(256, 0)]) = 12 := rfl
    have e3 : (wkTk n).length = 3 := rfl
    rw [List.length_append, List.length_append, List.length_append, h1, h2, e3, e12]
    omega
  obtain ⟨g, hg⟩ : ∃ g, R.T.2.2 = g + 2 + A.length + E.length := ⟨R.T.2.2 - 2 - A.length - E.length, by omega⟩
  obtain ⟨R1, p1, p2, p3, p4⟩ := pz_eds (F := F) (f := g + 2 + A.length) E _ a3 (by rw [eG]; exact hE) (by rw [eG]; show 0 + E.length ≤ 15; omega)
  rw [eG] at p3
  have nE : ∀ (l : List (Nat × Nat × Nat)) (G : GT), (adG G l).n = G.n ∧ (adG G l).a = G.a := by
    intro l
    induction l with
    | nil => exact fun G => ⟨rfl, rfl⟩
    | cons e l ih => intro G; obtain ⟨i1, i2⟩ := ih (G.addE e.1 e.2.1 e.2.2); exact ⟨i1.trans rfl, i2.trans rfl⟩
  obtain ⟨n1, n2⟩ := nE E (R.G.cl0 v n 6)
  obtain ⟨R2, r1, r2, r3, r4⟩ := pz_abss (F := F) (f := g + 2) (u := (262, 0)) (ts := [(257, 3), (42, 0), (265, 0), (45, 0), (264, 0), (43, 0), (263, 0), (47, 0), (257, 2), (59, 0), (256, 0)]) A R1 (by rw [← eT2] at p2; exact p2) (by rw [p3, n1, n2]; exact hA)
  obtain ⟨R3, s1, s2, s3⟩ := pz_cost (F := F) (f := g) r2 (by rw [r4, p4]; rfl)
  refine ⟨R3, ?_, ?_, s3⟩
  · unfold rdSetup
    rw [if_neg (by rw [a0.kd.1]; decide), eN]
    dsimp only
    rw [if_neg (by decide), pz_semi a2']
    dsimp only
    rw [if_neg (by decide), hg, p1, r1, s1]
  · rw [s2, r3, p3]

