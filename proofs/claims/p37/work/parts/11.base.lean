/-! ===== small things for all modules ===== -/
section
variable {v : Ev} {M : Md} {R : Room} {K : List Frame → Array Value → State → State → Prop} {t0 cells slots : Nat} {h : Hp} {top pc : Nat} {ls : List (Option Value)} {st : List Value}
theorem r_ls (ls2 : List (Option Value)) (e : ls = ls2) (k : J v M R K t0 cells slots h top pc ls2 st) : J v M R K t0 cells slots h top pc ls st := e ▸ k
/-- the same judgement told otherwise -/
theorem r_eq {h2 : Hp} {st2 : List Value} (eh : h = h2) (es : st = st2) (k : J v M R K t0 cells slots h2 top pc ls st2) : J v M R K t0 cells slots h top pc ls st := by
  subst eh; subst es; exact k
end
def pR (w : Value) (h : Hp) (top : Nat) : Option Value → Hp → Nat → Prop := fun r h' top' => r = some w ∧ h = h' ∧ top = top'
def pV (h : Hp) (top : Nat) : Option Value → Hp → Nat → Prop := fun r h' top' => r = none ∧ h = h' ∧ top = top'
def iF (f : Nat → Nat) : Nat → Int32 := fun k => nI (f k)
def upN (f : Nat → Nat) (i x : Nat) : Nat → Nat := fun k => if k = i then x else f k
theorem upN_eq (f : Nat → Nat) (i x : Nat) : upN f i x i = x := if_pos rfl
theorem upN_ne (f : Nat → Nat) {i k : Nat} (x : Nat) (n : k ≠ i) : upN f i x k = f k := if_neg n
theorem upd_iF (f : Nat → Nat) (i x : Nat) : upd (iF f) i (nI x) = iF (upN f i x) := by
  funext k
  unfold upd iF upN
  split <;> rfl
def sN (f : Nat → Nat) : Nat → Nat
  | 0 => 0
  | n + 1 => sN f n + f n
theorem sN_le {f : Nat → Nat} {c : Nat} : ∀ n, (∀ k, k < n → f k ≤ c) → sN f n ≤ n * c
  | 0, _ => by simp [sN]
  | n + 1, hh => by
    have h1 := sN_le n (fun k hk => hh k (by omega))
    have h2 := hh n (by omega)
    rw [sN, Nat.succ_mul]
    omega
theorem sN_cong {f g : Nat → Nat} : ∀ n, (∀ k, k < n → f k = g k) → sN f n = sN g n
  | 0, _ => rfl
  | n + 1, hh => by rw [sN, sN, sN_cong n (fun k hk => hh k (by omega)), hh n (by omega)]
theorem lit_nI (n : Nat) : (OfNat.ofNat n : Int32) = nI n := rfl
theorem W_cap {p : Program} {l : Launch} {e : Env} {R : Room} {s : State} {m : MethodId} {args : Array Value} {below : List Frame} {meth : Method} {c : Code} {H : Heap} {locs : List Loc} {cells slots : Nat} {Q : State → Prop} {g : JFrame}
    (k : H.size ≤ s.heap.size + cells → W p l e R s m args below meth c H locs cells slots Q g) : W p l e R s m args below meth c H locs cells slots Q g :=
  fun T hT X => k (by rw [← hT]; exact X.heapSize) T hT X
/-- the whole picture as a list -/
def wsOf (h : Hp) (top : Nat) : va_W := (List.range top).filterMap (fun a => (h a).map (fun e => (a, e)))
theorem wsOf_mem {h : Hp} {top : Nat} {q : Nat × va_E} : q ∈ wsOf h top ↔ q.1 < top ∧ h q.1 = some q.2 := by
  unfold wsOf
  rw [List.mem_filterMap]
  constructor
  · rintro ⟨a, ha, hq⟩
    cases hh : h a with
    | none => rw [hh] at hq; cases hq
    | some e =>
      rw [hh] at hq
      cases hq
      exact ⟨List.mem_range.mp ha, hh⟩
  · rintro ⟨h1, h2⟩
    exact ⟨q.1, List.mem_range.mpr h1, by rw [h2]; rfl⟩
theorem wsOf_lt (h : Hp) (top : Nat) : (wsOf h top).Pairwise (fun p q => p.1 < q.1) := by
  unfold wsOf
  rw [List.pairwise_filterMap]
  refine List.Pairwise.imp ?_ List.pairwise_lt_range
  intro a b hab x hx y hy
  cases ha : h a with
  | none => rw [ha] at hx; cases hx
  | some e =>
    cases hb : h b with
    | none => rw [hb] at hy; cases hy
    | some e2 =>
      rw [ha] at hx
      rw [hb] at hy
      cases hx
      cases hy
      exact hab
theorem wsOf_D {v : Ev} {h : Hp} {top : Nat} (hz : ∀ a e, h a = some e → z0 v ≤ a) : va_D (Ar v) (wsOf h top) := by
  refine ⟨fun i j p q hi hj hpq => ?_, fun k q hk => hz q.1 q.2 (wsOf_mem.mp (List.mem_of_getElem? hk)).2⟩
  obtain ⟨li, ei⟩ := List.getElem?_eq_some_iff.mp hi
  obtain ⟨lj, ej⟩ := List.getElem?_eq_some_iff.mp hj
  have hp := List.pairwise_iff_getElem.mp (wsOf_lt h top)
  rcases Nat.lt_trichotomy i j with q1 | q1 | q1
  · have := hp i j li lj q1
    rw [ei, ej] at this
    omega
  · exact q1
  · have := hp j i lj li q1
    rw [ei, ej] at this
    omega
theorem wsOf_P {v : Ev} {h : Hp} {top : Nat} {H : Heap} (hH : Hh v h H) : va_P v.1 vwCl (wsOf h top) H := fun k q hk => by
  obtain ⟨-, h2⟩ := wsOf_mem.mp (List.mem_of_getElem? hk)
  exact (hH q.1 q.2 h2).2
theorem wsOf_set {v : Ev} {h : Hp} {top : Nat} {H H1 : Heap} {k a : Nat} {e0 e : va_E} (hH : Hh v h H) (hz : H.size = top) (hk : (wsOf h top)[k]? = some (a, e0)) (hP : va_P v.1 vwCl ((wsOf h top).set k (a, e)) H1) : Hh v (hp h a e) H1 := by
  have hkl := (List.getElem?_eq_some_iff.mp hk).1
  intro q e' hq
  by_cases hqa : q = a
  · subst hqa
    rw [hp_eq] at hq
    cases hq
    exact ⟨(hH q e0 (wsOf_mem.mp (List.mem_of_getElem? hk)).2).1, hP k (q, e) (by rw [List.getElem?_set_self hkl])⟩
  · rw [hp_ne h e hqa] at hq
    refine ⟨(hH q e' hq).1, ?_⟩
    obtain ⟨i, hi⟩ := List.getElem?_of_mem (wsOf_mem (h := h) (top := top) (q := (q, e')) |>.mpr ⟨by rw [← hz]; exact hH.lt hq, hq⟩)
    refine hP i (q, e') ?_
    rw [List.getElem?_set_ne]
    · exact hi
    · intro hik
      subst hik
      rw [hk] at hi
      cases hi
      exact hqa rfl
def cpF {α : Type} (f g : Nat → α) (n : Nat) : Nat → α := fun k => if k < n then f k else g k
theorem cpF_cpy {α : Type} (f g : Nat → α) (n : Nat) : va_cpy f g 0 0 n = cpF f g n := by
  funext k
  unfold va_cpy cpF
  simp
section
variable {v : Ev} {M : Md} {R : Room} {K : List Frame → Array Value → State → State → Prop} {t0 cells slots : Nat} {h : Hp} {top pc : Nat} {ls : List (Option Value)} {st : List Value}
theorem r_acopyI {idx a0 a n0 n1 : Nat} {f g : Nat → Int32} {x y z : Int32} (n : Nat) (d : decode M.2.1 pc = .ok (.invokestatic idx, 3)) (hlk : Cond.methodLink M.1.cls idx arraycopyName ∈ big) (ha0 : h a0 = some (aI v n0 f)) (ha1 : h a = some (aI v n1 g)) (ne : a0 ≠ a) (hx : x = nI n) (hy : y = nI 0) (hzz : z = nI 0) (h0 : n ≤ n0) (h1 : n ≤ n1) (hN : n ≤ 65536) (ht : t0 + cells ≤ top)
    (hf : 1 ≤ R.frames) (hl2 : (st.map fun w => w.category).sum + (nativeFrameWords "java/lang/System" "arraycopy" 5 + 11) ≤ R.locals)
    (kk : J v M R K t0 cells slots (hp h a (aI v n1 (cpF f g n))) top (pc + 3) ls st) : J v M R K t0 cells slots h top pc ls (.int x :: .int y :: .ref a :: .int z :: .ref a0 :: st) := by
  intro p l e s m args below meth c F H locs A hz hH hS hl
  obtain ⟨k0, hk0⟩ := List.getElem?_of_mem (wsOf_mem (h := h) (top := top) (q := (a0, aI v n0 f)) |>.mpr ⟨by rw [← hz]; exact hH.lt ha0, ha0⟩)
  obtain ⟨k1, hk1⟩ := List.getElem?_of_mem (wsOf_mem (h := h) (top := top) (q := (a, aI v n1 g)) |>.mpr ⟨by rw [← hz]; exact hH.lt ha1, ha1⟩)
  have hst : s.heap.size = t0 := by
    obtain ⟨-, -, -, -, -, -, -, -, -, q1, -⟩ := F
    exact q1
  subst hx; subst hy; subst hzz
  have c0 : (nI 0).toNatClampNeg = 0 := nI_clamp (by omega)
  have cn : (nI n).toNatClampNeg = n := nI_clamp (by omega)
  refine va_copyi F.1 F.2.1 (F.2.2.1.trans hl.1.symm) F.2.2.2.1 (F.ht _ hlk) (F.ht _ mw_acopy_n) (F.ht _ mw_acopy_s) (F.ht _ mw_system) F.bs.1 (wsOf_P hH) (wsOf_D (fun a e ha => (hH a e ha).1)) (H0 := H) ⟨Nat.le_refl _, fun _ _ _ => rfl, hS.2.2⟩ k0 k1 0 0 hk0 hk1 rfl rfl rfl (nI_pos (by omega)) (nI_pos (by omega)) (nI_pos (by omega)) (by rw [c0, cn]; omega) (by rw [c0, cn]; omega) (fun i _ => rfl) hf hl2 d ?_
  intro H1 locs1 hP1 _ hS1
  refine W_cap fun hcap => ?_
  rw [c0, cn, cpF_cpy] at hP1
  have hle := hS1.1
  exact kk p l e s m args below meth c F H1 locs1 A (by omega) (wsOf_set hH hz hk1 hP1) ⟨Nat.le_trans hS.1 hS1.1, fun q g1 g2 => (hS1.2.1 q (Nat.lt_of_lt_of_le g1 hS.1) g2).trans (hS.2.1 q g1 g2), hS1.2.2⟩ hl
theorem r_if_eqN {a : Nat} {off : Int} (tgt : Nat) (d : decode M.2.1 pc = .ok (.ifCond .eq off, 3)) (ht : (pc : Int) + off = (tgt : Int)) (ha : a < 2147483648) (kt : a = 0 → J v M R K t0 cells slots h top tgt ls st) (kf : a ≠ 0 → J v M R K t0 cells slots h top (pc + 3) ls st) : J v M R K t0 cells slots h top pc ls (.int (nI a) :: st) :=
  r_if_eq tgt d ht (fun q => kt ((nI_eq_iff ha (b := 0) (by omega)).mp q)) (fun q => kf (fun z => q (by rw [z]; rfl)))
theorem r_if_neN {a : Nat} {off : Int} (tgt : Nat) (d : decode M.2.1 pc = .ok (.ifCond .ne off, 3)) (ht : (pc : Int) + off = (tgt : Int)) (ha : a < 2147483648) (kt : a ≠ 0 → J v M R K t0 cells slots h top tgt ls st) (kf : a = 0 → J v M R K t0 cells slots h top (pc + 3) ls st) : J v M R K t0 cells slots h top pc ls (.int (nI a) :: st) :=
  r_if_ne tgt d ht (fun q => kt (fun z => q (by rw [z]; rfl))) (fun q => kf ((nI_eq_iff ha (b := 0) (by omega)).mp q))
theorem r_if_gtN {a : Nat} {off : Int} (tgt : Nat) (d : decode M.2.1 pc = .ok (.ifCond .gt off, 3)) (ht : (pc : Int) + off = (tgt : Int)) (ha : a < 2147483648) (kt : 0 < a → J v M R K t0 cells slots h top tgt ls st) (kf : a = 0 → J v M R K t0 cells slots h top (pc + 3) ls st) : J v M R K t0 cells slots h top pc ls (.int (nI a) :: st) :=
  r_if_gt tgt d ht (fun q => kt ((nI_lt_iff (a := 0) (by omega) ha).mp q)) (fun q => kf (Nat.eq_zero_of_not_pos (fun z => q ((nI_lt_iff (a := 0) (by omega) ha).mpr z))))
theorem r_if_leN {a : Nat} {off : Int} (tgt : Nat) (d : decode M.2.1 pc = .ok (.ifCond .le off, 3)) (ht : (pc : Int) + off = (tgt : Int)) (ha : a < 2147483648) (kt : a = 0 → J v M R K t0 cells slots h top tgt ls st) (kf : 0 < a → J v M R K t0 cells slots h top (pc + 3) ls st) : J v M R K t0 cells slots h top pc ls (.int (nI a) :: st) :=
  r_if_le tgt d ht (fun q => kt (Nat.le_zero.mp ((nI_le_iff ha (b := 0) (by omega)).mp q))) (fun q => kf (Nat.pos_of_ne_zero (fun z => q (by rw [z]; exact (nI_le_iff (a := 0) (b := 0) (by omega) (by omega)).mpr (Nat.le_refl _)))))
theorem r_if_ltN {a : Nat} {off : Int} (tgt : Nat) (d : decode M.2.1 pc = .ok (.ifCond .lt off, 3)) (ht : (pc : Int) + off = (tgt : Int)) (ha : a < 2147483648) (kf : J v M R K t0 cells slots h top (pc + 3) ls st) : J v M R K t0 cells slots h top pc ls (.int (nI a) :: st) :=
  r_if_lt tgt d ht (fun q => absurd q (nI_pos (by omega))) (fun _ => kf)
theorem r_if_geN {a : Nat} {off : Int} (tgt : Nat) (d : decode M.2.1 pc = .ok (.ifCond .ge off, 3)) (ht : (pc : Int) + off = (tgt : Int)) (ha : a < 2147483648) (kt : J v M R K t0 cells slots h top tgt ls st) : J v M R K t0 cells slots h top pc ls (.int (nI a) :: st) :=
  r_if_ge tgt d ht (fun _ => kt) (fun q => absurd (nI_pos' (by omega)) q)
end
/-- going down: a loop's head -/
theorem down {n : Nat} {P : Nat → Prop} (hx : P n) (hs : ∀ u, u < n → P (u + 1) → P u) : ∀ u, u ≤ n → P u := by
  have key : ∀ k u, u + k = n → P u := by
    intro k
    induction k with
    | zero => intro u hu; have e : u = n := by omega
              rw [e]; exact hx
    | succ k ih => intro u hu; exact hs u (by omega) (ih (u + 1) (by omega))
  intro u hu
  exact key (n - u) u (by omega)
theorem hp_hp (h : Hp) (a : Nat) (e e2 : va_E) : hp (hp h a e) a e2 = hp h a e2 := by
  funext q
  unfold hp
  split <;> rfl
theorem hp_comm (h : Hp) {a b : Nat} (e e2 : va_E) (n : a ≠ b) : hp (hp h a e) b e2 = hp (hp h b e2) a e := by
  funext q
  unfold hp
  by_cases h1 : q = b
  · subst h1
    simp [Ne.symm n]
  · simp [h1]
theorem hp_id {h : Hp} {a : Nat} {e : va_E} (ha : h a = some e) : hp h a e = h := by
  funext q
  unfold hp
  split
  · next hq => rw [hq, ha]
  · rfl
/-! sets of at most six vertices as numbers -/
theorem bs_sh : ∀ S, S < 64 → ∀ k, k < 8 → ((nI S >>> (nI k &&& 31)) &&& nI 1) = nI (Bool.toNat (S.testBit k)) := by decide +kernel
theorem bs_one : ∀ k, k < 8 → (nI 1 <<< (nI k &&& 31)) = nI (2 ^ k) := by decide +kernel
theorem bs_or : ∀ S, S < 64 → ∀ T, T < 64 → (nI S ||| nI T) = nI (S ||| T) := by decide +kernel
theorem bs_and : ∀ S, S < 64 → ∀ T, T < 64 → (nI S &&& nI T) = nI (S &&& T) := by decide +kernel
theorem bs_ext {S T : Nat} (hS : S < 64) (hT : T < 64) (hh : ∀ k, k < 6 → S.testBit k = T.testBit k) : S = T := by
  apply Nat.eq_of_testBit_eq
  intro k
  by_cases hk : k < 6
  · exact hh k hk
  · rw [Nat.testBit_lt_two_pow, Nat.testBit_lt_two_pow]
    · exact Nat.lt_of_lt_of_le hT (show 2 ^ 6 ≤ 2 ^ k from Nat.pow_le_pow_right (by omega) (by omega))
    · exact Nat.lt_of_lt_of_le hS (show 2 ^ 6 ≤ 2 ^ k from Nat.pow_le_pow_right (by omega) (by omega))
theorem bs_or_lt {S T n : Nat} (hS : S < 2 ^ n) (hT : T < 2 ^ n) : S ||| T < 2 ^ n := Nat.or_lt_two_pow hS hT

