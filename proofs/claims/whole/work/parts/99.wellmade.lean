/-! ===== changes keep a graph well made ===== -/
theorem pWt_at {W : Nat → Nat} {a b w x y : Nat} (ha : a < 6) (hb : b < 6) (hx : x < 6) (hy : y < 6) : pWt W a b w (x * 6 + y) = if (x = a ∧ y = b) ∨ (x = b ∧ y = a) then w else W (x * 6 + y) := by
  unfold pWt upN
  by_cases c1 : x * 6 + y = b * 6 + a
  · rw [if_pos c1, if_pos (Or.inr (by omega))]
  · rw [if_neg c1]
    by_cases c2 : x * 6 + y = a * 6 + b
    · rw [if_pos c2, if_pos (Or.inl (by omega))]
    · rw [if_neg c2, if_neg (by omega)]
/-- an indicator that holds at most once -/
theorem one_le {p : Nat → Bool} : ∀ e, (∀ i j, i < e → j < e → p i = true → p j = true → i = j) → zS (fun k => if p k = true then (1 : Int) else 0) 0 e ≤ 1 ∧ ((∀ k, k < e → p k = false) → zS (fun k => if p k = true then (1 : Int) else 0) 0 e = 0)
  | 0, _ => ⟨(by decide : (0 : Int) ≤ 1), fun _ => rfl⟩
  | e + 1, h => by
    obtain ⟨h1, h2⟩ := one_le e (fun i j hi hj => h i j (by omega) (by omega))
    have es : zS (fun k => if p k = true then (1 : Int) else 0) 0 (e + 1) = zS (fun k => if p k = true then (1 : Int) else 0) 0 e + (if p e = true then 1 else 0) := by
      show zS (fun k => if p k = true then (1 : Int) else 0) 0 e + (if p (0 + e) = true then 1 else 0) = _
      rw [Nat.zero_add]
    rw [es]
    refine ⟨?_, fun hz => ?_⟩
    · by_cases c : p e = true
      · have := h2 (fun k hk => by
          cases q : p k with
          | false => rfl
          | true => have := h k e (by omega) (by omega) q c; omega)
        rw [if_pos c]
        omega
      · rw [if_neg c]
        omega
    · rw [h2 (fun k hk => hz k (by omega)), hz e (by omega), if_neg (by intro z; cases z)]
      rfl
theorem zS_mono {f g : Nat → Int} : ∀ c, (∀ j, j < c → f j ≤ g j) → zS f 0 c ≤ zS g 0 c
  | 0, _ => Int.le_refl _
  | c + 1, h => by
    have e1 := zS_mono c (fun j hj => h j (by omega))
    have e2 := h c (by omega)
    show zS f 0 c + f (0 + c) ≤ zS g 0 c + g (0 + c)
    rw [Nat.zero_add]
    omega
theorem pairs14 : ∀ p0, p0 < 36 → p0 / 6 < p0 % 6 → zS (fun p => if p / 6 < p % 6 ∧ p ≠ p0 then (1 : Int) else 0) 0 36 ≤ 14 := by decide +kernel
theorem zS_ones : ∀ n : Nat, zS (fun _ => (1 : Int)) 0 n = (n : Int)
  | 0 => rfl
  | n + 1 => by
    show zS (fun _ => (1 : Int)) 0 n + 1 = _
    rw [zS_ones n]
    omega
/-- a pair without an edge: at most 14 edges -/
theorem edges_14 {L H : Nat → Nat} {e a b : Nat} (h1 : ∀ i, i < e → L i < H i ∧ H i < 6) (h2 : ∀ i j, i < e → j < e → L i = L j → H i = H j → i = j) (hab : a < b) (hb : b < 6) (h3 : ∀ i, i < e → ¬ (L i = a ∧ H i = b)) : e ≤ 14 := by
  have e1 : zS (fun p => zS (fun k => if p = L k * 6 + H k then (1 : Int) else 0) 0 e) 0 36 = (e : Int) := by
    rw [zS_swap]
    rw [zS_cong e (f := fun k => zS (fun p => if p = L k * 6 + H k then (1 : Int) else 0) 0 36) (g := fun _ => 1) (fun k _ hk => by
      have := h1 k (by omega)
      exact (zS_one 36).trans (if_pos (by omega)))]
    exact zS_ones e
  have e2 : zS (fun p => zS (fun k => if p = L k * 6 + H k then (1 : Int) else 0) 0 e) 0 36 ≤ zS (fun p => if p / 6 < p % 6 ∧ p ≠ a * 6 + b then (1 : Int) else 0) 0 36 := by
    refine zS_mono 36 (fun p hp => ?_)
    have o := one_le (p := fun k => decide (p = L k * 6 + H k)) e (fun i j hi hj q1 q2 => by
      have q1' := of_decide_eq_true q1
      have q2' := of_decide_eq_true q2
      have := h1 i hi
      have := h1 j hj
      exact h2 i j hi hj (by omega) (by omega))
    have eq : zS (fun k => if p = L k * 6 + H k then (1 : Int) else 0) 0 e = zS (fun k => if decide (p = L k * 6 + H k) = true then (1 : Int) else 0) 0 e := by
      refine zS_cong e (fun k _ _ => ?_)
      by_cases c : p = L k * 6 + H k
      · rw [if_pos c, if_pos (decide_eq_true c)]
      · rw [if_neg c, if_neg (by rw [decide_eq_false c]; intro z; cases z)]
    show zS (fun k => if p = L k * 6 + H k then (1 : Int) else 0) 0 e ≤ if p / 6 < p % 6 ∧ p ≠ a * 6 + b then (1 : Int) else 0
    rw [eq]
    by_cases c : p / 6 < p % 6 ∧ p ≠ a * 6 + b
    · rw [if_pos c]
      exact o.1
    · rw [if_neg c, o.2 (fun k hk => decide_eq_false (fun z => ?_))]
      · exact Int.le_refl _
      · have g1 := h1 k hk
        have g2 := h3 k hk
        refine c ⟨by omega, fun z2 => g2 (by omega)⟩
  have e3 := pairs14 (a * 6 + b) (by omega) (by omega)
  rw [e1] at e2
  omega
section
variable {G : GT}
theorem wfG.no {a b : Nat} (h : wfG G) (ha : a < G.n) (hb : b < G.n) (h0 : G.W (a * 6 + b) = 0) : ∀ i, i < G.e → ¬ (G.L i = min a b ∧ G.H i = max a b) := by
  intro i hi z
  have h6 := h.1.1
  have e := (h.2.1 i hi).2.2
  rw [z.1, z.2] at e
  by_cases c : a ≤ b
  · rw [Nat.min_eq_left c, Nat.max_eq_right c] at e
    omega
  · rw [Nat.min_eq_right (by omega), Nat.max_eq_left (by omega), h.2.2.2.1 b a (by omega) (by omega)] at e
    omega
theorem wf_room {a b : Nat} (h : wfG G) (ha : a < G.n) (hb : b < G.n) (hne : a ≠ b) (h0 : G.W (a * 6 + b) = 0) : G.e ≤ 14 := by
  have h6 := h.1.1
  exact edges_14 (fun i hi => ⟨(h.2.1 i hi).1, by have := (h.2.1 i hi).2.1; omega⟩) h.2.2.1 (show min a b < max a b by omega) (by omega) (h.no ha hb h0)
theorem W36 {W : Nat → Nat} {c : Nat} (h : ∀ x y, x < 6 → y < 6 → W (x * 6 + y) ≤ c) : ∀ k, k < 36 → W k ≤ c := by
  intro k hk
  have e := h (k / 6) (k % 6) (by omega) (by omega)
  rw [show k / 6 * 6 + k % 6 = k by omega] at e
  exact e
theorem wf_addE {a b w : Nat} (h : wfG G) (ha : a < G.n) (hb : b < G.n) (hne : a ≠ b) (h0 : G.W (a * 6 + b) = 0) (hw : 1 ≤ w ∧ w ≤ 9) : wfG (G.addE a b w) := by
  have hno := h.no ha hb h0
  have hr := wf_room h ha hb hne h0
  obtain ⟨⟨k1, k2, k3, k4, k5⟩, e1, e2, sy, e3, dg⟩ := h
  have eW : ∀ x y, x < 6 → y < 6 → (G.addE a b w).W (x * 6 + y) = if (x = a ∧ y = b) ∨ (x = b ∧ y = a) then w else G.W (x * 6 + y) := fun x y hx hy => pWt_at (by omega) (by omega) hx hy
  have eL : ∀ i, (G.addE a b w).L i = if i = G.e then min a b else G.L i := fun i => rfl
  have eH : ∀ i, (G.addE a b w).H i = if i = G.e then max a b else G.H i := fun i => rfl
  have ee : (G.addE a b w).e = G.e + 1 := rfl
  have en : (G.addE a b w).n = G.n := rfl
  refine ⟨⟨k1, by rw [ee]; omega, k3, k4, W36 (fun x y hx hy => ?_)⟩, fun i hi => ?_, fun i j hi hj hl hh => ?_, fun x y hx hy => ?_, fun x y hxy hy hn => ?_, fun x hx => ?_⟩
  · rw [eW x y hx hy]
    have := k5 (x * 6 + y) (by omega)
    split <;> omega
  · rw [ee] at hi
    rw [eL, eH, en]
    by_cases c : i = G.e
    · rw [if_pos c, if_pos c, eW _ _ (by omega) (by omega)]
      refine ⟨by omega, by omega, ?_⟩
      rw [if_pos (by omega)]
      omega
    · rw [if_neg c, if_neg c]
      obtain ⟨g1, g2, g3⟩ := e1 i (by omega)
      refine ⟨g1, g2, ?_⟩
      rw [eW _ _ (by omega) (by omega)]
      split <;> omega
  · rw [ee] at hi hj
    rw [eL, eL] at hl
    rw [eH, eH] at hh
    by_cases c : i = G.e
    · by_cases c2 : j = G.e
      · omega
      · rw [if_pos c, if_neg c2] at hl hh
        exact absurd ⟨hl.symm, hh.symm⟩ (hno j (by omega))
    · by_cases c2 : j = G.e
      · rw [if_neg c, if_pos c2] at hl hh
        exact absurd ⟨hl, hh⟩ (hno i (by omega))
      · rw [if_neg c, if_neg c2] at hl hh
        exact e2 i j (by omega) (by omega) hl hh
  · rw [eW x y hx hy, eW y x hy hx, sy x y hx hy]
    by_cases c : (x = a ∧ y = b) ∨ (x = b ∧ y = a)
    · rw [if_pos c, if_pos (by omega)]
    · rw [if_neg c, if_neg (by omega)]
  · rw [eW x y (by omega) hy] at hn
    rw [ee]
    by_cases c : (x = a ∧ y = b) ∨ (x = b ∧ y = a)
    · refine ⟨G.e, by omega, ?_, ?_⟩
      · rw [eL, if_pos rfl]
        omega
      · rw [eH, if_pos rfl]
        omega
    · rw [if_neg c] at hn
      obtain ⟨i, g1, g2, g3⟩ := e3 x y hxy hy hn
      refine ⟨i, by omega, ?_, ?_⟩
      · rw [eL, if_neg (by omega)]
        exact g2
      · rw [eH, if_neg (by omega)]
        exact g3
  · rw [eW x x hx hx, if_neg (by omega)]
    exact dg x hx
theorem wf_setW {i w : Nat} (h : wfG G) (hi : i < G.e) (hw : 1 ≤ w ∧ w ≤ 9) : wfG (G.sW (pWt G.W (G.L i) (G.H i) w)) := by
  obtain ⟨⟨k1, k2, k3, k4, k5⟩, e1, e2, sy, e3, dg⟩ := h
  obtain ⟨i1, i2, -⟩ := e1 i hi
  have eW : ∀ x y, x < 6 → y < 6 → (G.sW (pWt G.W (G.L i) (G.H i) w)).W (x * 6 + y) = if (x = G.L i ∧ y = G.H i) ∨ (x = G.H i ∧ y = G.L i) then w else G.W (x * 6 + y) := fun x y hx hy => pWt_at (by omega) (by omega) hx hy
  refine ⟨⟨k1, k2, k3, k4, W36 (fun x y hx hy => ?_)⟩, fun j hj => ?_, e2, fun x y hx hy => ?_, fun x y hxy hy hn => ?_, fun x hx => ?_⟩
  · rw [eW x y hx hy]
    have := k5 (x * 6 + y) (by omega)
    split <;> omega
  · obtain ⟨g1, g2, g3⟩ := e1 j hj
    refine ⟨g1, g2, ?_⟩
    show 0 < (G.sW (pWt G.W (G.L i) (G.H i) w)).W (G.L j * 6 + G.H j)
    rw [eW _ _ (by omega) (by omega)]
    split <;> omega
  · rw [eW x y hx hy, eW y x hy hx, sy x y hx hy]
    by_cases c : (x = G.L i ∧ y = G.H i) ∨ (x = G.H i ∧ y = G.L i)
    · rw [if_pos c, if_pos (by omega)]
    · rw [if_neg c, if_neg (by omega)]
  · rw [eW x y (by omega) hy] at hn
    by_cases c : (x = G.L i ∧ y = G.H i) ∨ (x = G.H i ∧ y = G.L i)
    · exact ⟨i, hi, by show G.L i = x; omega, by show G.H i = y; omega⟩
    · rw [if_neg c] at hn
      exact e3 x y hxy hy hn
  · rw [eW x x hx hx, if_neg (by omega)]
    exact dg x hx
theorem wf_sc {a b : Nat} (h : wfG G) (ha : a < 64) : wfG (G.sc G.n G.e a b) := ⟨⟨h.1.1, h.1.2.1, ha, h.1.2.2.2⟩, h.2⟩
theorem wf_sB {B O : Nat → Nat} {b : Nat} (h : wfG G) (hB : ∀ k, k < 6 → B k ≤ 6) : wfG (((G.sO O).sB B).sc G.n G.e G.a b) := ⟨⟨h.1.1, h.1.2.1, h.1.2.2.1, hB, h.1.2.2.2.2⟩, h.2⟩
theorem wf_sF {F : Nat} (h : wfG G) : wfG (G.sF F) := h
end

