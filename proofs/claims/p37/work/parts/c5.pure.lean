/-! ===== the law's text read by the component: the same graph ===== -/
theorem sc_tk {b : Nat → Nat} {hd len : Nat} {t2 : (Nat → Int) × (Nat → Nat) × (Nat → Nat)} {T : TK} {K : List (Int × Nat)} (hT : T.2 = (scT b hd len t2).2) (hK : TLk b len 0 = K) : T.2.2 = K.length ∧ ∀ i t, K[i]? = some t → T.2.1.1 i = t.1 ∧ T.2.1.2.2 i = t.2 := by
  have e : K = (tks b len 600 0 ++ [(256, len, 0)]).map kvT := by
    rw [← hK, List.map_append]
    rfl
  rw [hT]
  unfold scT
  constructor
  · rw [TK.adds_ct, e, List.length_map]
    exact Nat.zero_add _
  · intro i t ht
    rw [e, List.getElem?_map] at ht
    obtain ⟨k, hk, rfl⟩ := Option.map_eq_some_iff.mp ht
    have h := TK.adds_get (tks b len 600 0 ++ [(256, len, 0)]) ((b, hd), t2, 0) i k hk
    have e0 : ((((b, hd), t2, 0) : TK)).2.2 + i = i := Nat.zero_add i
    rw [e0] at h
    exact ⟨h.1, h.2.2⟩
theorem prE_b {n : Nat} {w : Nat → Nat → Nat} {f : Nat → Nat → Bool} {P : List (Nat × Nat)} (hn : n ≤ 5) (hw : ∀ a b, w a b ≤ 9) (ok : okP n P) : ∀ e ∈ prE w f P, e.1 < 10 ∧ e.2.1 < 10 ∧ e.2.2 < 10 := by
  intro e he
  unfold prE at he
  rw [List.mem_flatMap] at he
  obtain ⟨p, h1, h2⟩ := he
  have h3 := ok.1 p h1
  have h4 := hw p.1 p.2
  by_cases c : w p.1 p.2 = 0
  · rw [if_pos c] at h2
    cases h2
  · rw [if_neg c] at h2
    have h5 := List.mem_singleton.mp h2
    rw [h5]
    split
    · exact ⟨by show p.2 < 10; omega, by show p.1 < 10; omega, by show w p.1 p.2 < 10; omega⟩
    · exact ⟨by show p.1 < 10; omega, by show p.2 < 10; omega, by show w p.1 p.2 < 10; omega⟩
theorem asc_mem {p : Nat → Bool} : ∀ {n u : Nat}, u ∈ ascL p n → u < n ∧ p u = true
  | 0, u, h => by cases h
  | n + 1, u, h => by
    rw [ascL] at h
    by_cases c : p n = true
    · rw [if_pos c, List.mem_append, List.mem_singleton] at h
      rcases h with h | rfl
      · obtain ⟨h1, h2⟩ := asc_mem h
        exact ⟨by omega, h2⟩
      · exact ⟨by omega, c⟩
    · rw [if_neg c] at h
      obtain ⟨h1, h2⟩ := asc_mem h
      exact ⟨by omega, h2⟩
theorem tx_ok {n : Nat} {E : List (Nat × Nat × Nat)} {A : List Nat} (hn : n < 10) (hE : ∀ e ∈ E, e.1 < 10 ∧ e.2.1 < 10 ∧ e.2.2 < 10) (hA : ∀ u ∈ A, u < 10) (hl : (lwTx n E A).length ≤ 1000) : okTx (lwTx n E A) := by
  refine okTx_of hl (fun x hx => ?_)
  unfold lwTx at hx
  rw [List.append_nil, List.mem_append, List.mem_append, List.mem_append] at hx
  rcases hx with h | h | h | h
  · unfold wkTx at h
    simp only [List.mem_cons, List.not_mem_nil, or_false] at h
    omega
  · unfold edT at h
    rw [List.mem_flatMap] at h
    obtain ⟨e, h1, h2⟩ := h
    obtain ⟨q1, q2, q3⟩ := hE e h1
    unfold edTx at h2
    simp only [List.mem_cons, List.not_mem_nil, or_false] at h2
    omega
  · unfold abT at h
    rw [List.mem_flatMap] at h
    obtain ⟨u, h1, h2⟩ := h
    have q1 := hA u h1
    unfold abTx at h2
    simp only [List.mem_cons, List.not_mem_nil, or_false] at h2
    omega
  · have : ∀ x ∈ coTx, x < 128 := by decide
    exact this x h
theorem lw_txA {v : Ev} {n : Nat} : txA v n n ++ coTx = lwTx n (prE (pWv v) (pFv v) (allP n n)) (ascL (aFv v) n) := by
  unfold txA lwTx
  simp
theorem vA_app {n : Nat} : ∀ (l : List Nat) (a x : Nat), vA n a l → x < n → (l.foldl (fun a x => a ||| 2 ^ x) a).testBit x = false → vA n a (l ++ [x])
  | [], _, _, _, h1, h2 => ⟨h1, h2, trivial⟩
  | y :: l, a, x, h, h1, h2 => ⟨h.1, h.2.1, vA_app l _ x h.2.2 h1 h2⟩
theorem aMk_fold (v : Ev) : ∀ u, (ascL (aFv v) u).foldl (fun a x => a ||| 2 ^ x) 0 = aMk v u
  | 0 => rfl
  | u + 1 => by
    rw [ascL, aMk]
    by_cases c : aFv v u = true
    · rw [if_pos c, if_pos c, List.foldl_append, aMk_fold v u]
      rfl
    · rw [if_neg c, if_neg c, aMk_fold v u]
theorem aMk_2 (v : Ev) : ∀ u, aMk v u < 2 ^ u
  | 0 => by
    show 0 < 2 ^ 0
    decide
  | u + 1 => by
    have ih := aMk_2 v u
    have e : 2 ^ (u + 1) = 2 ^ u + 2 ^ u := by rw [Nat.pow_succ]; omega
    rw [aMk]
    split
    · exact Nat.or_lt_two_pow (by omega) (Nat.pow_lt_pow_right (by decide) (Nat.lt_succ_self u))
    · omega
theorem asc_vA (v : Ev) {n : Nat} : ∀ u, u ≤ n → vA n 0 (ascL (aFv v) u)
  | 0, _ => trivial
  | u + 1, h => by
    rw [ascL]
    by_cases c : aFv v u = true
    · rw [if_pos c]
      refine vA_app _ _ _ (asc_vA v u (by omega)) (by omega) ?_
      rw [aMk_fold]
      exact Nat.testBit_lt_two_pow (aMk_2 v u)
    · rw [if_neg c]
      exact asc_vA v u (by omega)
theorem abG_all : ∀ (A : List Nat) (G : GT), (abG G A).n = G.n ∧ (abG G A).e = G.e ∧ (abG G A).a = A.foldl (fun a x => a ||| 2 ^ x) G.a ∧ (abG G A).b = G.b ∧ (abG G A).W = G.W ∧ (abG G A).L = G.L ∧ (abG G A).H = G.H
  | [], _ => ⟨rfl, rfl, rfl, rfl, rfl, rfl, rfl⟩
  | x :: A, G => abG_all A (G.sc G.n G.e (G.a ||| 2 ^ x) G.b)
theorem adG_all : ∀ (l : List (Nat × Nat × Nat)) (G : GT), (adG G l).n = G.n ∧ (adG G l).a = G.a ∧ (adG G l).b = G.b
  | [], _ => ⟨rfl, rfl, rfl⟩
  | e :: l, G => adG_all l (G.addE e.1 e.2.1 e.2.2)
/-- the law's own picture, written over the component's graph -/
def lwE (v : Ev) (n : Nat) (G : GT) (cc : Nat → Int) : LT := ((lwS v n n).1, G.W, tbl G 9 cc, (lwS v n n).2.2.2)
/-- all that the text's reading gives -/
theorem read_all {v : Ev} {n F : Nat} {R1 : RD} {b : Nat → Nat} {hd : Nat} {t2 : (Nat → Int) × (Nat → Nat) × (Nat → Nat)} {L : List Nat} (hn : 2 ≤ n ∧ n ≤ 5) (hL : L = txA v n n ++ coTx) (hb : ∀ k, k < L.length → b k = L.getD k 0) (hT : R1.T = ((b, 0), (scT b hd L.length t2).2)) :
    ∃ R', rdSetup v F R1 = (true, R') ∧ R'.hc = 1 ∧ R'.cl = 9 ∧ (∀ i x, lwC[i]? = some x → R'.cd i = x) ∧ R'.G.n = n ∧ R'.G.a = aMk v n ∧ R'.G.b = n ∧ R'.G.F = F ∧ InvG R'.G (LSt n (pWv v) (allP n n)) := by
  obtain ⟨ok, l10⟩ := okAll hn.2
  have hE := prE_b (f := pFv v) hn.2 (pWv_le v) ok
  have hA : ∀ u ∈ ascL (aFv v) n, u < 10 := fun u hu => by
    have := (asc_mem hu).1
    omega
  have hlen : L.length ≤ 600 := by
    have := txA_len (v := v) (n := n) (u := n) hn.2 (by omega)
    rw [hL, List.length_append]
    have e32 : coTx.length = 32 := rfl
    omega
  rw [lw_txA] at hL
  have hK : TLk b L.length 0 = lwTk n (prE (pWv v) (pFv v) (allP n n)) (ascL (aFv v) n) := by
    rw [hL]
    rw [hL] at hb hlen
    exact lx_all (by omega) hE hA hlen hb
  obtain ⟨hc1, hc2⟩ := sc_tk (T := R1.T) (hd := hd) (t2 := t2) (by rw [hT]) hK
  have h6 : n ≤ 6 := by omega
  have z36 : (∀ k, k < 36 → (R1.G.cl0 v n 6).W k = 0) ∧ (R1.G.cl0 v n 6).e = 0 := ⟨fun k hk => by
    show filF R1.G.W 36 0 k = 0
    unfold filF
    rw [if_pos hk], rfl⟩
  obtain ⟨v1, v2⟩ := prE_v (f := pFv v) (w := pWv v) h6 z36 (pWv_le v) (allP n n).length (allP n n) rfl ok
  have hl15 : (prE (pWv v) (pFv v) (allP n n)).length ≤ 15 := by
    have := edl_len (pWv v) (allP n n)
    omega
  obtain ⟨R', r1, r2, r3, r4, r5⟩ := pz_all (v := v) (F := F) ⟨hn.1, h6⟩ hc1 hc2 v1 hl15 (asc_vA v n (Nat.le_refl n))
  obtain ⟨a1, a2, a3, a4, a5, a6, a7⟩ := abG_all (ascL (aFv v) n) (adG (R1.G.cl0 v n 6) (prE (pWv v) (pFv v) (allP n n)))
  obtain ⟨b1, b2, b3⟩ := adG_all (prE (pWv v) (pFv v) (allP n n)) (R1.G.cl0 v n 6)
  have iG := adG_inv (w := pWv v) (f := pFv v) h6 z36 (allP n n).length (allP n n) rfl ok
  refine ⟨R', r1, r3, r4, r5, ?_, ?_, ?_, ?_, ?_⟩
  · rw [r2]
    exact a1.trans b1
  · rw [r2]
    refine a3.trans ?_
    rw [b2]
    exact aMk_fold v n
  · rw [r2]
    exact a4.trans b3
  · rw [r2]
    rfl
  · rw [r2]
    obtain ⟨i1, i2, i3⟩ := iG
    refine ⟨fun k hk => ?_, a2.trans i2, fun i hi => ⟨?_, ?_⟩⟩
    · exact (congrFun a5 k).trans (i1 k hk)
    · exact (congrFun a6 i).trans (i3 i hi).1
    · exact (congrFun a7 i).trans (i3 i hi).2

