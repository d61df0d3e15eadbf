/-! ===== the law's pairs of vertices: its own graph, the text, the component's graph ===== -/
theorem upN_comm (f : Nat → Nat) {i j : Nat} (x y : Nat) (h : i ≠ j) : upN (upN f i x) j y = upN (upN f j y) i x := by
  funext k
  unfold upN
  by_cases c : k = j
  · rw [if_pos c, if_neg (by omega), if_pos c]
  · rw [if_neg c]
    by_cases d : k = i
    · rw [if_pos d, if_pos d]
    · rw [if_neg d, if_neg d, if_neg c]
theorem pWt_sym (W : Nat → Nat) {a b : Nat} (w : Nat) (hab : a ≠ b) (ha : a < 6) (hb : b < 6) : pWt W a b w = pWt W b a w := by
  unfold pWt
  exact upN_comm W w w (by omega)
theorem pWt_at (W : Nat → Nat) {a b i j : Nat} (w : Nat) (ha : a < 6) (hb : b < 6) (hi : i < 6) (hj : j < 6) : pWt W a b w (i * 6 + j) = if (i = a ∧ j = b) ∨ (i = b ∧ j = a) then w else W (i * 6 + j) := by
  unfold pWt upN
  by_cases c : i = b ∧ j = a
  · rw [if_pos (by omega), if_pos (Or.inr c)]
  · rw [if_neg (by omega)]
    by_cases d : i = a ∧ j = b
    · rw [if_pos (by omega), if_pos (Or.inl d)]
    · rw [if_neg (by omega), if_neg (by omega)]
/-- the cost of a step -/
def kst (x y w : Nat) : Nat := (max 0 (min 99 (3 * (y : Int) - x + (w / 2 : Nat)))).toNat
theorem kst_le (x y w : Nat) : kst x y w ≤ 99 := by unfold kst; omega
def pCo (C : Nat → Nat) (a b w : Nat) : Nat → Nat := upN (upN C (a * 6 + b) (kst a b w)) (b * 6 + a) (kst b a w)
theorem pCo_at (C : Nat → Nat) {a b i j : Nat} (w : Nat) (hab : a ≠ b) (ha : a < 6) (hb : b < 6) (hi : i < 6) (hj : j < 6) : pCo C a b w (i * 6 + j) = if (i = a ∧ j = b) ∨ (i = b ∧ j = a) then kst i j w else C (i * 6 + j) := by
  unfold pCo upN
  by_cases c : i = b ∧ j = a
  · rw [if_pos (by omega), if_pos (Or.inr c), c.1, c.2]
  · rw [if_neg (by omega)]
    by_cases d : i = a ∧ j = b
    · rw [if_pos (by omega), if_pos (Or.inl d), d.1, d.2]
    · rw [if_neg (by omega), if_neg (by omega)]
def pDe (D : Nat → Nat) (a b w : Nat) : Nat → Nat := upN (upN D a (D a + w)) b (upN D a (D a + w) b + w)
theorem pDe_at (D : Nat → Nat) {a b u : Nat} (w : Nat) (hab : a ≠ b) : pDe D a b w u = if u = a ∨ u = b then D u + w else D u := by
  unfold pDe upN
  by_cases c : u = b
  · rw [if_pos c, if_neg (by omega), if_pos (Or.inr c), c]
  · rw [if_neg c]
    by_cases d : u = a
    · rw [if_pos d, if_pos (Or.inl d), d]
    · rw [if_neg d, if_neg (by omega)]
/-- the law's object with one edge more -/
def adL (S : LT) (a b w : Nat) : LT := ((S.n, S.e + 1, S.a), pWt S.W a b w, pCo S.C a b w, pDe S.D a b w, upN (upN S.E (2 * S.e) a) (2 * S.e + 1) b, upN S.T S.e w)
def rowP (a : Nat) : Nat → List (Nat × Nat)
  | 0 => []
  | b + 1 => if a < b then rowP a b ++ [(a, b)] else rowP a b
def allP (n : Nat) : Nat → List (Nat × Nat)
  | 0 => []
  | a + 1 => allP n a ++ rowP a n
theorem rowP_0 {a : Nat} : ∀ b, b ≤ a + 1 → rowP a b = []
  | 0, _ => rfl
  | b + 1, h => by
    rw [rowP, if_neg (by omega), rowP_0 b (by omega)]
def stp (w : Nat → Nat → Nat) (S : LT) (p : Nat × Nat) : LT := if w p.1 p.2 = 0 then S else adL S p.1 p.2 (w p.1 p.2)
/-- the edges of the pairs, in order; as they are printed -/
def edl (w : Nat → Nat → Nat) (P : List (Nat × Nat)) : List (Nat × Nat × Nat) := P.flatMap fun p => if w p.1 p.2 = 0 then [] else [(p.1, p.2, w p.1 p.2)]
def prE (w : Nat → Nat → Nat) (f : Nat → Nat → Bool) (P : List (Nat × Nat)) : List (Nat × Nat × Nat) := P.flatMap fun p => if w p.1 p.2 = 0 then [] else [if f p.1 p.2 = true then (p.2, p.1, w p.1 p.2) else (p.1, p.2, w p.1 p.2)]
def LS0 (n : Nat) : LT := ((n, 0, 0), fun _ => 0, fun _ => 0, fun _ => 0, fun _ => 0, fun _ => 0)
def LSt (n : Nat) (w : Nat → Nat → Nat) (P : List (Nat × Nat)) : LT := P.foldl (stp w) (LS0 n)
def okP (n : Nat) (P : List (Nat × Nat)) : Prop := (∀ p ∈ P, p.1 < p.2 ∧ p.2 < n) ∧ P.Nodup
def wq (w : Nat → Nat → Nat) (Q : List (Nat × Nat)) (i j : Nat) : Nat := if (i, j) ∈ Q then w i j else if (j, i) ∈ Q then w j i else 0
/-- what holds of the law's object behind the pairs Q -/
def InvL (n : Nat) (w : Nat → Nat → Nat) (S : LT) (Q : List (Nat × Nat)) : Prop :=
  (S.n = n ∧ S.a = 0) ∧ (∀ i j, i < 6 → j < 6 → S.W (i * 6 + j) = wq w Q i j) ∧ (∀ i j, i < 6 → j < 6 → S.C (i * 6 + j) = if S.W (i * 6 + j) = 0 then 0 else kst i j (S.W (i * 6 + j))) ∧ (∀ u, u < 6 → S.D u = degN S.W u 6) ∧ S.e = (edl w Q).length ∧ (∀ i t, (edl w Q)[i]? = some t → S.E (2 * i) = t.1 ∧ S.E (2 * i + 1) = t.2.1 ∧ S.T i = t.2.2)
theorem sN_up {f g : Nat → Nat} {c w : Nat} (h : ∀ k, g k = if k = c then f k + w else f k) : ∀ m, sN g m = sN f m + if c < m then w else 0
  | 0 => rfl
  | m + 1 => by
    rw [sN, sN, sN_up h m, h m]
    by_cases e : m = c
    · rw [if_pos e, if_neg (by omega), if_pos (by omega)]
      omega
    · rw [if_neg e]
      by_cases d : c < m
      · rw [if_pos d, if_pos (by omega)]
        omega
      · rw [if_neg d, if_neg (by omega)]
        omega
theorem deg_pWt (W : Nat → Nat) {a b u : Nat} (w : Nat) (hab : a ≠ b) (ha : a < 6) (hb : b < 6) (hu : u < 6) (h0 : W (a * 6 + b) = 0) (h1 : W (b * 6 + a) = 0) : degN (pWt W a b w) u 6 = if u = a ∨ u = b then degN W u 6 + w else degN W u 6 := by
  unfold degN
  by_cases c : u = a
  · rw [if_pos (Or.inl c), sN_cong (g := fun k => if k = b then W (u * 6 + k) + w else W (u * 6 + k)) 6 (fun k hk => by
      rw [pWt_at W w ha hb hu hk]
      by_cases d : k = b
      · rw [if_pos (Or.inl ⟨c, d⟩), if_pos d, c, d, h0]; omega
      · rw [if_neg (by omega), if_neg d]), sN_up (f := fun k => W (u * 6 + k)) (c := b) (w := w) (fun _ => rfl), if_pos hb]
  · by_cases c2 : u = b
    · rw [if_pos (Or.inr c2), sN_cong (g := fun k => if k = a then W (u * 6 + k) + w else W (u * 6 + k)) 6 (fun k hk => by
        rw [pWt_at W w ha hb hu hk]
        by_cases d : k = a
        · rw [if_pos (Or.inr ⟨c2, d⟩), if_pos d, c2, d, h1]; omega
        · rw [if_neg (by omega), if_neg d]), sN_up (f := fun k => W (u * 6 + k)) (c := a) (w := w) (fun _ => rfl), if_pos ha]
    · rw [if_neg (by omega)]
      exact sN_cong 6 (fun k hk => by rw [pWt_at W w ha hb hu hk, if_neg (by omega)])
theorem okP.app {n : Nat} {Q : List (Nat × Nat)} {p : Nat × Nat} (h : okP n (Q ++ [p])) : okP n Q ∧ p.1 < p.2 ∧ p.2 < n ∧ p ∉ Q := by
  obtain ⟨h1, h2⟩ := h
  have h3 := h1 p (List.mem_append_right _ List.mem_cons_self)
  rw [List.nodup_append] at h2
  refine ⟨⟨fun q hq => h1 q (List.mem_append_left _ hq), h2.1⟩, h3.1, h3.2, fun z => h2.2.2 p z p List.mem_cons_self rfl⟩
theorem wq_no {n : Nat} {w : Nat → Nat → Nat} {Q : List (Nat × Nat)} {a b : Nat} (h : okP n Q) (hab : a < b) (hp : (a, b) ∉ Q) : wq w Q a b = 0 ∧ wq w Q b a = 0 := by
  have h2 : (b, a) ∉ Q := fun z => by
    have := (h.1 _ z).1
    dsimp only at this
    omega
  unfold wq
  rw [if_neg hp, if_neg h2, if_neg h2, if_neg hp]
  exact ⟨rfl, rfl⟩
theorem wq_ad {n : Nat} {w : Nat → Nat → Nat} {Q : List (Nat × Nat)} {a b : Nat} (h : okP n Q) (hab : a < b) (hp : (a, b) ∉ Q) (i j : Nat) : wq w (Q ++ [(a, b)]) i j = if (i = a ∧ j = b) ∨ (i = b ∧ j = a) then w a b else wq w Q i j := by
  unfold wq
  simp only [List.mem_append, List.mem_singleton, Prod.mk.injEq]
  by_cases c : i = a ∧ j = b
  · rw [if_pos (Or.inr c), if_pos (Or.inl c), c.1, c.2]
  · by_cases d : i = b ∧ j = a
    · have h2 : (b, a) ∉ Q := fun z => by
        have := (h.1 _ z).1
        dsimp only at this
        omega
      rw [if_pos (Or.inr d), d.1, d.2, if_neg (by rintro (z | z); exact h2 z; omega), if_pos (Or.inr ⟨rfl, rfl⟩)]
    · rw [if_neg (show ¬((i = a ∧ j = b) ∨ (i = b ∧ j = a)) from fun z => z.elim c d)]
      by_cases e : (i, j) ∈ Q
      · rw [if_pos (Or.inl e), if_pos e]
      · rw [if_neg (by rintro (z | z); exact e z; exact c z), if_neg e]
        by_cases g : (j, i) ∈ Q
        · rw [if_pos (Or.inl g), if_pos g]
        · rw [if_neg (by rintro (z | z); exact g z; omega), if_neg g]
theorem get_snoc {α : Type} {l : List α} {x y : α} {i : Nat} (h : (l ++ [x])[i]? = some y) : (i < l.length ∧ l[i]? = some y) ∨ (i = l.length ∧ x = y) := by
  by_cases c : i < l.length
  · rw [List.getElem?_append_left c] at h
    exact Or.inl ⟨c, h⟩
  · rw [List.getElem?_append_right (by omega)] at h
    by_cases d : i - l.length = 0
    · rw [d] at h
      exact Or.inr ⟨by omega, by simpa using h⟩
    · rw [List.getElem?_eq_none (by show 1 ≤ _; omega)] at h
      cases h
theorem edl_snoc (w : Nat → Nat → Nat) (Q : List (Nat × Nat)) (a b : Nat) : edl w (Q ++ [(a, b)]) = if w a b = 0 then edl w Q else edl w Q ++ [(a, b, w a b)] := by
  unfold edl
  rw [List.flatMap_append]
  by_cases c : w a b = 0
  · rw [if_pos c]
    simp [c]
  · rw [if_neg c]
    simp [c]
theorem prE_snoc (w : Nat → Nat → Nat) (f : Nat → Nat → Bool) (Q : List (Nat × Nat)) (a b : Nat) : prE w f (Q ++ [(a, b)]) = if w a b = 0 then prE w f Q else prE w f Q ++ [if f a b = true then (b, a, w a b) else (a, b, w a b)] := by
  unfold prE
  rw [List.flatMap_append]
  by_cases c : w a b = 0
  · rw [if_pos c]
    simp [c]
  · rw [if_neg c]
    simp [c]
theorem InvL.step {n : Nat} {w : Nat → Nat → Nat} {S : LT} {Q : List (Nat × Nat)} {a b : Nat} (hn : n ≤ 6) (I : InvL n w S Q) (ok : okP n (Q ++ [(a, b)])) : InvL n w (stp w S (a, b)) (Q ++ [(a, b)]) := by
  obtain ⟨ok1, hab, hbn, hp⟩ := ok.app
  dsimp only at hab hbn
  obtain ⟨i1, i2, i3, i4, i5, i6⟩ := I
  have ha6 : a < 6 := by omega
  have hb6 : b < 6 := by omega
  obtain ⟨z1, z2⟩ := wq_no (w := w) ok1 hab hp
  by_cases c : w a b = 0
  · have e1 : stp w S (a, b) = S := by unfold stp; rw [if_pos c]
    rw [e1]
    refine ⟨i1, fun i j hi hj => ?_, i3, i4, ?_, ?_⟩
    · rw [i2 i j hi hj, wq_ad ok1 hab hp]
      by_cases d : (i = a ∧ j = b) ∨ (i = b ∧ j = a)
      · rw [if_pos d, c]
        rcases d with ⟨rfl, rfl⟩ | ⟨rfl, rfl⟩
        · exact z1
        · exact z2
      · rw [if_neg d]
    · rw [edl_snoc, if_pos c]
      exact i5
    · rw [edl_snoc, if_pos c]
      exact i6
  · have e1 : stp w S (a, b) = adL S a b (w a b) := by unfold stp; rw [if_neg c]
    rw [e1]
    have h0 : S.W (a * 6 + b) = 0 := (i2 a b ha6 hb6).trans z1
    have h1 : S.W (b * 6 + a) = 0 := (i2 b a hb6 ha6).trans z2
    have eW : ∀ i j, i < 6 → j < 6 → (adL S a b (w a b)).W (i * 6 + j) = if (i = a ∧ j = b) ∨ (i = b ∧ j = a) then w a b else S.W (i * 6 + j) := fun i j hi hj => pWt_at S.W (w a b) ha6 hb6 hi hj
    refine ⟨i1, fun i j hi hj => ?_, fun i j hi hj => ?_, fun u hu => ?_, ?_, fun i t ht => ?_⟩
    · rw [eW i j hi hj, wq_ad ok1 hab hp, i2 i j hi hj]
    · rw [eW i j hi hj]
      show pCo S.C a b (w a b) (i * 6 + j) = _
      rw [pCo_at S.C (w a b) (by omega) ha6 hb6 hi hj]
      by_cases d : (i = a ∧ j = b) ∨ (i = b ∧ j = a)
      · rw [if_pos d, if_pos d, if_neg c]
      · rw [if_neg d, if_neg d]
        exact i3 i j hi hj
    · show pDe S.D a b (w a b) u = degN (pWt S.W a b (w a b)) u 6
      rw [pDe_at S.D (w a b) (by omega), deg_pWt S.W (w a b) (by omega) ha6 hb6 hu h0 h1, i4 u hu]
    · rw [edl_snoc, if_neg c, List.length_append, ← i5]
      rfl
    · rw [edl_snoc, if_neg c] at ht
      show upN (upN S.E (2 * S.e) a) (2 * S.e + 1) b (2 * i) = _ ∧ upN (upN S.E (2 * S.e) a) (2 * S.e + 1) b (2 * i + 1) = _ ∧ upN S.T S.e (w a b) i = _
      rcases get_snoc ht with ⟨k1, k2⟩ | ⟨k1, k2⟩
      · obtain ⟨g1, g2, g3⟩ := i6 i t k2
        rw [upN_ne _ _ (by omega), upN_ne _ _ (by omega), upN_ne _ _ (by omega), upN_ne _ _ (by omega), upN_ne _ _ (by omega)]
        exact ⟨g1, g2, g3⟩
      · rw [k1, ← i5, ← k2, upN_ne _ _ (by omega), upN_eq, upN_eq, upN_eq]
        exact ⟨rfl, rfl, rfl⟩
theorem LSt_snoc (n : Nat) (w : Nat → Nat → Nat) (Q : List (Nat × Nat)) (p : Nat × Nat) : LSt n w (Q ++ [p]) = stp w (LSt n w Q) p := by
  unfold LSt
  rw [List.foldl_append]
  rfl
theorem LSt_inv {n : Nat} {w : Nat → Nat → Nat} (hn : n ≤ 6) : ∀ (m : Nat) (Q : List (Nat × Nat)), Q.length = m → okP n Q → InvL n w (LSt n w Q) Q
  | 0, Q, hm, ok => by
    have e : Q = [] := List.length_eq_zero_iff.mp hm
    subst e
    refine ⟨⟨rfl, rfl⟩, fun i j _ _ => rfl, fun i j _ _ => rfl, fun u _ => rfl, rfl, fun i t ht => ?_⟩
    cases ht
  | m + 1, Q, hm, ok => by
    have hne : Q ≠ [] := fun z => by rw [z] at hm; cases hm
    obtain ⟨Q', p, rfl⟩ : ∃ Q' p, Q = Q' ++ [p] := ⟨Q.dropLast, Q.getLast hne, (List.dropLast_concat_getLast hne).symm⟩
    rw [LSt_snoc]
    have hl : Q'.length = m := by
      rw [List.length_append] at hm
      have : ([p] : List (Nat × Nat)).length = 1 := rfl
      omega
    exact (LSt_inv hn m Q' hl ok.app.1).step hn ok
/-- the component's graph, as the same pairs make it -/
def InvG (G : GT) (S : LT) : Prop := (∀ k, k < 36 → G.W k = S.W k) ∧ G.e = S.e ∧ ∀ i, i < S.e → G.L i = S.E (2 * i) ∧ G.H i = S.E (2 * i + 1)
theorem adG_inv {n : Nat} {w : Nat → Nat → Nat} {f : Nat → Nat → Bool} {G0 : GT} (hn : n ≤ 6) (h0 : (∀ k, k < 36 → G0.W k = 0) ∧ G0.e = 0) : ∀ (m : Nat) (Q : List (Nat × Nat)), Q.length = m → okP n Q → InvG (adG G0 (prE w f Q)) (LSt n w Q)
  | 0, Q, hm, ok => by
    have e : Q = [] := List.length_eq_zero_iff.mp hm
    subst e
    exact ⟨h0.1, h0.2, fun i hi => absurd hi (Nat.not_lt_zero i)⟩
  | m + 1, Q, hm, ok => by
    have hne : Q ≠ [] := fun z => by rw [z] at hm; cases hm
    obtain ⟨Q', ⟨a, b⟩, rfl⟩ : ∃ Q' p, Q = Q' ++ [p] := ⟨Q.dropLast, Q.getLast hne, (List.dropLast_concat_getLast hne).symm⟩
    have hl : Q'.length = m := by
      rw [List.length_append] at hm
      have : ([(a, b)] : List (Nat × Nat)).length = 1 := rfl
      omega
    obtain ⟨ok1, hab, hbn, hp⟩ := ok.app
    dsimp only at hab hbn
    obtain ⟨g1, g2, g3⟩ := adG_inv hn h0 m Q' hl ok1
    rw [LSt_snoc, prE_snoc]
    by_cases c : w a b = 0
    · have e1 : stp w (LSt n w Q') (a, b) = LSt n w Q' := by unfold stp; rw [if_pos c]
      rw [e1, if_pos c]
      exact ⟨g1, g2, g3⟩
    · have e1 : stp w (LSt n w Q') (a, b) = adL (LSt n w Q') a b (w a b) := by unfold stp; rw [if_neg c]
      rw [e1, if_neg c]
      have eA : ∀ p q : Nat, adG G0 (prE w f Q' ++ [(p, q, w a b)]) = (adG G0 (prE w f Q')).addE p q (w a b) := fun p q => by
        unfold adG
        rw [List.foldl_append]
        rfl
      generalize hG : adG G0 (prE w f Q') = G at g1 g2 g3 eA
      generalize LSt n w Q' = S at g1 g2 g3
      have key : ∀ p q, (p = a ∧ q = b) ∨ (p = b ∧ q = a) → InvG (G.addE p q (w a b)) (adL S a b (w a b)) := by
        intro p q hpq
        refine ⟨fun k hk => ?_, ?_, fun i hi => ?_⟩
        · show pWt G.W p q (w a b) k = pWt S.W a b (w a b) k
          have e2 : pWt G.W p q (w a b) = pWt G.W a b (w a b) := by
            rcases hpq with ⟨rfl, rfl⟩ | ⟨rfl, rfl⟩
            · rfl
            · exact pWt_sym G.W _ (by omega) (by omega) (by omega)
          rw [e2]
          unfold pWt upN
          split
          · rfl
          · split
            · rfl
            · exact g1 k hk
        · show G.e + 1 = S.e + 1
          rw [g2]
        · have hi' : i < S.e + 1 := hi
          show upN G.L G.e (min p q) i = upN (upN S.E (2 * S.e) a) (2 * S.e + 1) b (2 * i) ∧ upN G.H G.e (max p q) i = upN (upN S.E (2 * S.e) a) (2 * S.e + 1) b (2 * i + 1)
          rw [g2]
          by_cases d : i = S.e
          · rw [d, upN_eq, upN_eq, upN_ne _ _ (by omega), upN_eq, upN_eq]
            omega
          · rw [upN_ne _ _ d, upN_ne _ _ d, upN_ne _ _ (by omega), upN_ne _ _ (by omega), upN_ne _ _ (by omega), upN_ne _ _ (by omega)]
            exact g3 i (by omega)
      by_cases d : f a b = true
      · rw [if_pos d, eA]
        exact key b a (Or.inr ⟨rfl, rfl⟩)
      · rw [if_neg d, eA]
        exact key a b (Or.inl ⟨rfl, rfl⟩)
theorem vE_app {n : Nat} : ∀ (l : List (Nat × Nat × Nat)) (W : Nat → Nat) (p q x : Nat), vE n W l → p < n → q < n → p ≠ q → (l.foldl (fun W e => pWt W e.1 e.2.1 e.2.2) W) (p * 6 + q) = 0 → (1 ≤ x ∧ x ≤ 9) → vE n W (l ++ [(p, q, x)])
  | [], W, p, q, x, _, h1, h2, h3, h4, h5 => ⟨h1, h2, h3, h4, h5, trivial⟩
  | e :: l, W, p, q, x, h, h1, h2, h3, h4, h5 => ⟨h.1, h.2.1, h.2.2.1, h.2.2.2.1, h.2.2.2.2.1, vE_app l _ p q x h.2.2.2.2.2 h1 h2 h3 h4 h5⟩
theorem adG_W (G : GT) (l : List (Nat × Nat × Nat)) : (adG G l).W = l.foldl (fun W e => pWt W e.1 e.2.1 e.2.2) G.W := by
  induction l generalizing G with
  | nil => rfl
  | cons e l ih => exact ih (G.addE e.1 e.2.1 e.2.2)
/-- the printed edges may be read -/
theorem prE_v {n : Nat} {w : Nat → Nat → Nat} {f : Nat → Nat → Bool} {G0 : GT} (hn : n ≤ 6) (h0 : (∀ k, k < 36 → G0.W k = 0) ∧ G0.e = 0) (hw : ∀ a b, w a b ≤ 9) : ∀ (m : Nat) (Q : List (Nat × Nat)), Q.length = m → okP n Q → vE n G0.W (prE w f Q) ∧ (prE w f Q).length = (edl w Q).length
  | 0, Q, hm, ok => by
    have e : Q = [] := List.length_eq_zero_iff.mp hm
    subst e
    exact ⟨trivial, rfl⟩
  | m + 1, Q, hm, ok => by
    have hne : Q ≠ [] := fun z => by rw [z] at hm; cases hm
    obtain ⟨Q', ⟨a, b⟩, rfl⟩ : ∃ Q' p, Q = Q' ++ [p] := ⟨Q.dropLast, Q.getLast hne, (List.dropLast_concat_getLast hne).symm⟩
    have hl : Q'.length = m := by
      rw [List.length_append] at hm
      have : ([(a, b)] : List (Nat × Nat)).length = 1 := rfl
      omega
    obtain ⟨ok1, hab, hbn, hp⟩ := ok.app
    dsimp only at hab hbn
    obtain ⟨v1, v2⟩ := prE_v (f := f) hn h0 hw m Q' hl ok1
    rw [prE_snoc, edl_snoc]
    by_cases c : w a b = 0
    · rw [if_pos c, if_pos c]
      exact ⟨v1, v2⟩
    · rw [if_neg c, if_neg c]
      have iG := adG_inv (w := w) (f := f) hn h0 m Q' hl ok1
      have iL := LSt_inv (w := w) hn m Q' hl ok1
      obtain ⟨z1, z2⟩ := wq_no (w := w) ok1 hab hp
      have hh := hw a b
      have k1 : ((prE w f Q').foldl (fun W e => pWt W e.1 e.2.1 e.2.2) G0.W) (a * 6 + b) = 0 := by
        rw [← adG_W, iG.1 _ (by omega), iL.2.1 a b (by omega) (by omega), z1]
      have k2 : ((prE w f Q').foldl (fun W e => pWt W e.1 e.2.1 e.2.2) G0.W) (b * 6 + a) = 0 := by
        rw [← adG_W, iG.1 _ (by omega), iL.2.1 b a (by omega) (by omega), z2]
      refine ⟨?_, by rw [List.length_append, List.length_append, v2]; rfl⟩
      by_cases d : f a b = true
      · rw [if_pos d]
        exact vE_app _ _ _ _ _ v1 (by omega) (by omega) (by omega) k2 ⟨by omega, hh⟩
      · rw [if_neg d]
        exact vE_app _ _ _ _ _ v1 (by omega) (by omega) (by omega) k1 ⟨by omega, hh⟩
/-- the pairs are in order -/
def okPb (n : Nat) (P : List (Nat × Nat)) : Bool := P.all (fun p => decide (p.1 < p.2 ∧ p.2 < n)) && decide P.Nodup
theorem okPb_ok {n : Nat} {P : List (Nat × Nat)} (h : okPb n P = true) : okP n P := by
  unfold okPb at h
  rw [Bool.and_eq_true, decide_eq_true_eq, List.all_eq_true] at h
  exact ⟨fun p hp => by simpa using h.1 p hp, h.2⟩
theorem pfx_ok : ∀ n, n < 6 → ∀ a, a < n + 1 → ∀ b, b < n + 1 → okPb n (allP n a ++ rowP a b) = true ∧ (allP n a ++ rowP a b).length ≤ 10 := by decide +kernel
theorem pfx_lt : ∀ n, n < 6 → ∀ a, a < n → ∀ b, b < n → (b ≤ a ∨ (allP n a ++ rowP a b).length ≤ 9) := by decide +kernel

