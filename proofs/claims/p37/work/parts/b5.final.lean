/-! ===== the law's own graph behind all pairs ===== -/
section
variable {n : Nat} {w : Nat → Nat → Nat} {S : LT} {Q : List (Nat × Nat)}
theorem wq_sym (ok : okP n Q) (i j : Nat) : wq w Q i j = wq w Q j i := by
  unfold wq
  by_cases c : (i, j) ∈ Q
  · have h1 := (ok.1 _ c).1
    have d : (j, i) ∉ Q := fun z => by
      have h2 := (ok.1 _ z).1
      dsimp only at h1 h2
      omega
    rw [if_pos c, if_neg d, if_pos c]
  · rw [if_neg c]
    by_cases d : (j, i) ∈ Q
    · rw [if_pos d, if_pos d]
    · rw [if_neg d, if_neg d, if_neg c]
theorem wq_le (hw : ∀ a b, w a b ≤ 9) (i j : Nat) : wq w Q i j ≤ 9 := by
  unfold wq
  split
  · exact hw _ _
  · split
    · exact hw _ _
    · omega
theorem wq_out (ok : okP n Q) {i j : Nat} (h : n ≤ j ∨ n ≤ i ∨ i = j) : wq w Q i j = 0 := by
  unfold wq
  rw [if_neg (fun z => by
    have := ok.1 _ z
    dsimp only at this
    omega), if_neg (fun z => by
    have := ok.1 _ z
    dsimp only at this
    omega)]
theorem ij36 {k : Nat} (h : k < 36) : k = k / 6 * 6 + k % 6 ∧ k / 6 < 6 ∧ k % 6 < 6 := by omega
theorem fin_gdW (hn : n ≤ 6) (hw : ∀ a b, w a b ≤ 9) (ok : okP n Q) {W : Nat → Nat} (hW : ∀ i j, i < 6 → j < 6 → W (i * 6 + j) = wq w Q i j) : gdW W n := by
  refine ⟨hn, fun x hx => ?_, fun x y hx hy => ?_, fun k hk => ?_⟩
  · rw [hW x x (by omega) (by omega), wq_out ok (by omega)]
  · rw [hW x y (by omega) (by omega), hW y x (by omega) (by omega), wq_sym ok]
  · obtain ⟨e, h1, h2⟩ := ij36 hk
    rw [e, hW _ _ h1 h2]
    exact wq_le hw _ _
theorem sN_tail {f : Nat → Nat} {n : Nat} : ∀ m, n ≤ m → (∀ k, n ≤ k → k < m → f k = 0) → sN f m = sN f n
  | 0, h, _ => by rw [show n = 0 by omega]
  | m + 1, h, hf => by
    by_cases c : n = m + 1
    · rw [c]
    · rw [sN, hf m (by omega) (by omega), sN_tail m (by omega) (fun k h1 h2 => hf k h1 (by omega))]
      rfl
theorem fin_deg (hn : n ≤ 6) (ok : okP n Q) {W : Nat → Nat} (hW : ∀ i j, i < 6 → j < 6 → W (i * 6 + j) = wq w Q i j) {u : Nat} (hu : u < 6) : degN W u 6 = degN W u n :=
  sN_tail 6 hn (fun k h1 h2 => by rw [hW u k hu h2, wq_out ok (by omega)])
theorem deg_cong {W W' : Nat → Nat} {n u : Nat} (hn : n ≤ 6) (hu : u < 6) (h : ∀ k, k < 36 → W' k = W k) : degN W' u n = degN W u n := sN_cong n (fun k hk => h _ (by omega))
theorem mem_edl {e : Nat × Nat × Nat} : e ∈ edl w Q ↔ (e.1, e.2.1) ∈ Q ∧ e.2.2 = w e.1 e.2.1 ∧ w e.1 e.2.1 ≠ 0 := by
  unfold edl
  rw [List.mem_flatMap]
  constructor
  · rintro ⟨p, h1, h2⟩
    by_cases c : w p.1 p.2 = 0
    · rw [if_pos c] at h2
      cases h2
    · rw [if_neg c] at h2
      have := List.mem_singleton.mp h2
      subst this
      exact ⟨h1, rfl, c⟩
  · rintro ⟨h1, h2, h3⟩
    refine ⟨_, h1, ?_⟩
    dsimp only
    rw [if_neg h3, List.mem_singleton, ← h2]
/-- the edges, as the arrays hold them -/
theorem fin_edge (I : InvL n w S Q) {i : Nat} (hi : i < S.e) : (S.E (2 * i), S.E (2 * i + 1)) ∈ Q ∧ S.T i = w (S.E (2 * i)) (S.E (2 * i + 1)) ∧ w (S.E (2 * i)) (S.E (2 * i + 1)) ≠ 0 := by
  have hl : i < (edl w Q).length := by rw [← I.2.2.2.2.1]; exact hi
  obtain ⟨h1, h2, h3⟩ := I.2.2.2.2.2 i _ (List.getElem?_eq_getElem hl)
  obtain ⟨m1, m2, m3⟩ := mem_edl.mp (List.getElem_mem hl)
  rw [h1, h2, h3]
  exact ⟨m1, m2, m3⟩
theorem fin_has (I : InvL n w S Q) {a b : Nat} (h : (a, b) ∈ Q) (hz : w a b ≠ 0) : ∃ i, i < S.e ∧ S.E (2 * i) = a ∧ S.E (2 * i + 1) = b := by
  have hm : (a, b, w a b) ∈ edl w Q := mem_edl.mpr ⟨h, rfl, hz⟩
  obtain ⟨i, hi, e⟩ := List.getElem_of_mem hm
  obtain ⟨h1, h2, h3⟩ := I.2.2.2.2.2 i _ (List.getElem?_eq_getElem hi)
  rw [e] at h1 h2
  exact ⟨i, by rw [I.2.2.2.2.1]; exact hi, h1, h2⟩
end
/-! the cost of a step by the codes of the law's text -/
theorem clM_id {x : Int} (h : -1000000 ≤ x ∧ x ≤ 1000000) : clM x = x := by unfold clM; omega
theorem cst_kst {W : Nat → Nat} {cc : Nat → Int} {x y : Nat} (hx : x < 6) (hy : y < 6) (hw : W (x * 6 + y) ≤ 9) (hc : ∀ i c, lwC[i]? = some c → cc i = c) : cst W cc 9 x y = kst x y (W (x * 6 + y)) := by
  have c0 := hc 0 3 rfl
  have c1 := hc 1 (-3) rfl
  have c2 := hc 2 (-6) rfl
  have c3 := hc 3 (-2) rfl
  have c4 := hc 4 (-5) rfl
  have c5 := hc 5 (-1) rfl
  have c6 := hc 6 2 rfl
  have c7 := hc 7 (-7) rfl
  have c8 := hc 8 (-4) rfl
  unfold cst kst
  generalize W (x * 6 + y) = w at hw
  have ed : ((w : Nat) : Int).tdiv 2 = ((w / 2 : Nat) : Int) := by
    rw [Int.tdiv_eq_ediv_of_nonneg (Int.natCast_nonneg _)]
    rfl
  have e : evL (w : Nat) x y cc 9 = [3 * (y : Int) - x + (w / 2 : Nat)] := by
    simp only [evL, c0, c1, c2, c3, c4, c5, c6, c7, c8]
    have s1 : evS (w : Nat) x y 3 [] = [3] := rfl
    have s2 : evS (w : Nat) x y (-3) [3] = [(y : Int), 3] := rfl
    have s3 : evS (w : Nat) x y (-6) [(y : Int), 3] = [3 * (y : Int)] := by
      rw [evS_op (by decide)]
      show [clM (3 * (y : Int))] = _
      rw [clM_id ⟨by omega, by omega⟩]
    have s4 : evS (w : Nat) x y (-2) [3 * (y : Int)] = [(x : Int), 3 * (y : Int)] := rfl
    have s5 : evS (w : Nat) x y (-5) [(x : Int), 3 * (y : Int)] = [3 * (y : Int) - x] := by
      rw [evS_op (by decide)]
      show [clM (3 * (y : Int) - x)] = _
      rw [clM_id ⟨by omega, by omega⟩]
    have s6 : evS (w : Nat) x y (-1) [3 * (y : Int) - x] = [(w : Int), 3 * (y : Int) - x] := rfl
    have s7 : evS (w : Nat) x y 2 [(w : Int), 3 * (y : Int) - x] = [2, (w : Int), 3 * (y : Int) - x] := rfl
    have s8 : evS (w : Nat) x y (-7) [2, (w : Int), 3 * (y : Int) - x] = [((w / 2 : Nat) : Int), 3 * (y : Int) - x] := by
      rw [evS_op (by decide)]
      show [clM ((w : Int).tdiv 2), 3 * (y : Int) - x] = _
      rw [ed, clM_id ⟨by omega, by omega⟩]
    have s9 : evS (w : Nat) x y (-4) [((w / 2 : Nat) : Int), 3 * (y : Int) - x] = [3 * (y : Int) - x + (w / 2 : Nat)] := by
      rw [evS_op (by decide)]
      show [clM (3 * (y : Int) - x + (w / 2 : Nat))] = _
      rw [clM_id ⟨by omega, by omega⟩]
    rw [s1, s2, s3, s4, s5, s6, s7, s8, s9]
  rw [e]
  rfl
theorem tbS_at {W : Nat → Nat} {c : Nat → Int} {n : Nat} {L H T : Nat → Nat} {i j : Nat} (hi : i < 6) (hj : j < 6) : ∀ e, (∀ t, t < e → L t < 6 ∧ H t < 6) → (((∃ t, t < e ∧ ((L t = i ∧ H t = j) ∨ (H t = i ∧ L t = j))) → tbS W c n L H T e (i * 6 + j) = cst W c n i j) ∧ ((¬ ∃ t, t < e ∧ ((L t = i ∧ H t = j) ∨ (H t = i ∧ L t = j))) → tbS W c n L H T e (i * 6 + j) = 0))
  | 0, _ => ⟨fun ⟨t, h, _⟩ => absurd h (Nat.not_lt_zero t), fun _ => by
    show filF T 36 0 (i * 6 + j) = 0
    unfold filF
    rw [if_pos (by omega)]⟩
  | e + 1, h => by
    obtain ⟨k1, k2⟩ := h e (by omega)
    have ih := tbS_at (W := W) (c := c) (n := n) (L := L) (H := H) (T := T) hi hj e (fun t ht => h t (by omega))
    have es : tbS W c n L H T (e + 1) (i * 6 + j) = if H e = i ∧ L e = j then cst W c n i j else if L e = i ∧ H e = j then cst W c n i j else tbS W c n L H T e (i * 6 + j) := by
      show upN (upN (tbS W c n L H T e) (L e * 6 + H e) (cst W c n (L e) (H e))) (H e * 6 + L e) (cst W c n (H e) (L e)) (i * 6 + j) = _
      unfold upN
      by_cases a : H e = i ∧ L e = j
      · rw [if_pos (by omega), if_pos a, a.1, a.2]
      · rw [if_neg (by omega), if_neg a]
        by_cases b : L e = i ∧ H e = j
        · rw [if_pos (by omega), if_pos b, b.1, b.2]
        · rw [if_neg (by omega), if_neg b]
    rw [es]
    constructor
    · rintro ⟨t, t1, t2⟩
      by_cases a : H e = i ∧ L e = j
      · rw [if_pos a]
      · rw [if_neg a]
        by_cases b : L e = i ∧ H e = j
        · rw [if_pos b]
        · rw [if_neg b]
          refine ih.1 ⟨t, ?_, t2⟩
          by_cases d : t = e
          · rw [d] at t2
            rcases t2 with z | z
            · exact absurd z b
            · exact absurd z a
          · omega
    · intro hno
      rw [if_neg (fun z => hno ⟨e, by omega, Or.inr z⟩), if_neg (fun z => hno ⟨e, by omega, Or.inl z⟩)]
      exact ih.2 (fun ⟨t, t1, t2⟩ => hno ⟨t, by omega, t2⟩)
section
variable {n : Nat} {w : Nat → Nat → Nat} {S : LT} {Q : List (Nat × Nat)}
/-- the component's table of costs is the law's -/
theorem fin_tbl (hn : n ≤ 6) (hw : ∀ a b, w a b ≤ 9) (ok : okP n Q) (I : InvL n w S Q) {G : GT} {cc : Nat → Int} (gW : ∀ k, k < 36 → G.W k = S.W k) (gE : G.e = S.e) (gL : ∀ i, i < S.e → G.L i = S.E (2 * i) ∧ G.H i = S.E (2 * i + 1)) (hc : ∀ i c, lwC[i]? = some c → cc i = c) {k : Nat} (hk : k < 36) : tbl G 9 cc k = S.C k := by
  obtain ⟨e, h1, h2⟩ := ij36 hk
  generalize k / 6 = i at e h1
  generalize k % 6 = j at e h2
  subst e
  have hb : ∀ t, t < G.e → G.L t < 6 ∧ G.H t < 6 := fun t ht => by
    rw [gE] at ht
    obtain ⟨l1, l2⟩ := gL t ht
    have := ok.1 _ (fin_edge I ht).1
    dsimp only at this
    omega
  obtain ⟨t1, t2⟩ := tbS_at (W := G.W) (c := cc) (n := 9) (L := G.L) (H := G.H) (T := fun _ => 0) h1 h2 G.e hb
  have eW := I.2.1 i j h1 h2
  rw [I.2.2.1 i j h1 h2]
  unfold tbl
  by_cases c : S.W (i * 6 + j) = 0
  · rw [if_pos c]
    refine t2 ?_
    rintro ⟨t, ht, hij⟩
    rw [gE] at ht
    obtain ⟨l1, l2⟩ := gL t ht
    obtain ⟨m1, m2, m3⟩ := fin_edge I ht
    rw [← l1, ← l2] at m1 m3
    rw [c] at eW
    rcases hij with ⟨rfl, rfl⟩ | ⟨rfl, rfl⟩
    · unfold wq at eW
      rw [if_pos m1] at eW
      exact m3 eW.symm
    · rw [wq_sym ok] at eW
      unfold wq at eW
      rw [if_pos m1] at eW
      exact m3 eW.symm
  · rw [if_neg c]
    rw [t1 ?_, cst_kst h1 h2 (by rw [gW _ hk, eW]; exact wq_le hw _ _) hc, gW _ hk]
    rw [eW] at c
    unfold wq at c
    by_cases d : (i, j) ∈ Q
    · rw [if_pos d] at c
      obtain ⟨t, a1, a2, a3⟩ := fin_has I d c
      obtain ⟨l1, l2⟩ := gL t a1
      exact ⟨t, by rw [gE]; exact a1, Or.inl ⟨l1.trans a2, l2.trans a3⟩⟩
    · rw [if_neg d] at c
      by_cases d2 : (j, i) ∈ Q
      · rw [if_pos d2] at c
        obtain ⟨t, a1, a2, a3⟩ := fin_has I d2 c
        obtain ⟨l1, l2⟩ := gL t a1
        exact ⟨t, by rw [gE]; exact a1, Or.inr ⟨l2.trans a3, l1.trans a2⟩⟩
      · rw [if_neg d2] at c
        exact absurd rfl c
/-- the trees, over the list of edges -/
def cZ (e : Nat × Nat × Nat) : Nat × Nat × Int := (e.1, e.2.1, (e.2.2 : Nat))
theorem TF_list {l : List (Nat × Nat × Nat)} (he : S.e = l.length) (hl : ∀ i t, l[i]? = some t → S.E (2 * i) = t.1 ∧ S.E (2 * i + 1) = t.2.1 ∧ S.T i = t.2.2) : ∀ k left lab, k ≤ S.e → TF S k left lab = TFl S.n ((l.drop (S.e - k)).map cZ) left lab
  | 0, left, lab, _ => by
    rw [Nat.sub_zero, he, List.drop_length]
    rfl
  | k + 1, left, lab, hk => by
    have hlt : S.e - (k + 1) < l.length := by omega
    obtain ⟨h1, h2, h3⟩ := hl _ _ (List.getElem?_eq_getElem hlt)
    rw [List.drop_eq_getElem_cons hlt, show S.e - (k + 1) + 1 = S.e - k by omega, List.map_cons, TF, TFl, h1, h2, h3, TF_list he hl k left lab (by omega), TF_list he hl k (left - 1) _ (by omega)]
    rfl
theorem TFl_0 (n : Nat) : ∀ (l : List (Nat × Nat × Int)) (lab : Nat → Nat), TFl n l 0 lab = 1
  | [], _ => rfl
  | _ :: _, _ => rfl
theorem TFl_edl (n : Nat) : ∀ (Q : List (Nat × Nat)) (left : Nat) (lab : Nat → Nat), TFl n ((edl w Q).map cZ) left lab = TFl n (Q.map fun p => (p.1, p.2, ((w p.1 p.2 : Nat) : Int))) left lab
  | [], _, _ => rfl
  | p :: Q, left, lab => by
    have e0 : edl w (p :: Q) = (if w p.1 p.2 = 0 then [] else [(p.1, p.2, w p.1 p.2)]) ++ edl w Q := by
      unfold edl
      rw [List.flatMap_cons]
    rw [e0, List.map_cons]
    by_cases c : w p.1 p.2 = 0
    · rw [if_pos c, List.nil_append, TFl_edl n Q]
      rw [TFl]
      by_cases d : left = 0
      · rw [if_pos d, d, TFl_0]
      · rw [if_neg d, c]
        split
        · rfl
        · show _ = _ + 0 * _
          rw [Int.zero_mul, Int.add_zero]
    · rw [if_neg c, List.singleton_append, List.map_cons, TFl, TFl, TFl_edl n Q, TFl_edl n Q]
      rfl
end

