/-! ===== the graph of the blocks ===== -/
theorem zS_zero (k : Nat) : ∀ c, zS (fun _ => 0) k c = 0
  | 0 => rfl
  | c + 1 => by
    show zS (fun _ => 0) k c + 0 = 0
    rw [zS_zero k c]
    rfl
theorem zS_swap (f : Nat → Nat → Int) (n : Nat) : ∀ b, zS (fun c => zS (fun u => f c u) 0 n) 0 b = zS (fun u => zS (fun c => f c u) 0 b) 0 n
  | 0 => (zS_zero 0 n).symm
  | b + 1 => by
    show zS (fun c => zS (fun u => f c u) 0 n) 0 b + zS (fun u => f (0 + b) u) 0 n = _
    rw [zS_swap f n b, ← zS_add]
    rfl
theorem sN_mul (c : Nat) (f : Nat → Nat) : ∀ n, c * sN f n = sN (fun x => c * f x) n
  | 0 => rfl
  | n + 1 => by rw [sN, sN, Nat.mul_add, sN_mul c f n]
theorem sN_one {f : Nat → Nat} : ∀ n, 0 < sN f n → ∃ k, k < n ∧ 0 < f k
  | 0, h => absurd h (Nat.lt_irrefl 0)
  | n + 1, h => by
    by_cases c : 0 < f n
    · exact ⟨n, by omega, c⟩
    · rw [sN] at h
      obtain ⟨k, h1, h2⟩ := sN_one (f := f) n (by omega)
      exact ⟨k, by omega, h2⟩
section
variable {W B : Nat → Nat} {n b : Nat}
theorem wto_sum (hB : ∀ u, u < n → B u < b) (F : Nat → Int) (v : Nat) : zS (fun c => ((wto W B n v c : Nat) : Int) * F c) 0 b = zS (fun u => ((W (v * 6 + u) : Nat) : Int) * F (B u)) 0 n := by
  have e1 : zS (fun c => ((wto W B n v c : Nat) : Int) * F c) 0 b = zS (fun c => zS (fun u => ((if B u = c then W (v * 6 + u) else 0 : Nat) : Int) * F c) 0 n) 0 b := by
    refine zS_cong b (fun c _ _ => ?_)
    unfold wto
    rw [← zS_sN, zS_mul]
  rw [e1, zS_swap]
  refine zS_cong n (fun u _ hu => ?_)
  have e2 : zS (fun c => ((if B u = c then W (v * 6 + u) else 0 : Nat) : Int) * F c) 0 b = zS (fun c => if c = B u then ((W (v * 6 + u) : Nat) : Int) * F (B u) else 0) 0 b := by
    refine zS_cong b (fun c _ _ => ?_)
    show ((if B u = c then W (v * 6 + u) else 0 : Nat) : Int) * F c = if c = B u then ((W (v * 6 + u) : Nat) : Int) * F (B u) else 0
    by_cases c1 : c = B u
    · rw [if_pos c1, if_pos c1.symm, c1]
    · rw [if_neg c1, if_neg (fun z => c1 z.symm)]
      exact Int.zero_mul _
  exact e2.trans ((zS_one b).trans (if_pos (hB u (by omega))))
theorem wto_deg (hB : ∀ u, u < n → B u < b) (v : Nat) : zS (fun c => ((wto W B n v c : Nat) : Int)) 0 b = (degN W v n : Nat) := by
  have e := wto_sum (W := W) hB (fun _ => 1) v
  have e1 : zS (fun c => ((wto W B n v c : Nat) : Int) * 1) 0 b = zS (fun c => ((wto W B n v c : Nat) : Int)) 0 b := zS_cong b (fun c _ _ => Int.mul_one _)
  have e2 : zS (fun u => ((W (v * 6 + u) : Nat) : Int) * 1) 0 n = zS (fun u => ((W (v * 6 + u) : Nat) : Int)) 0 n := zS_cong n (fun c _ _ => Int.mul_one _)
  rw [← e1, e, e2, zS_sN]
  rfl
theorem wto_dg (v c : Nat) : wto W B n v c ≤ degN W v n := (sN_mono n (fun u _ => by
  show (if B u = c then W (v * 6 + u) else 0) ≤ W (v * 6 + u)
  split <;> omega)).1
theorem wto_ge {v u c : Nat} (hu : u < n) (h : B u = c) : W (v * 6 + u) ≤ wto W B n v c := by
  have e := sN_ge (f := fun u => if B u = c then W (v * 6 + u) else 0) n hu
  rw [if_pos h] at e
  exact e
theorem wto_pos {v c : Nat} (h : 0 < wto W B n v c) : ∃ u, u < n ∧ B u = c ∧ 0 < W (v * 6 + u) := by
  obtain ⟨u, h1, h2⟩ := sN_one n h
  by_cases e : B u = c
  · rw [if_pos e] at h2
    exact ⟨u, h1, e, h2⟩
  · rw [if_neg e] at h2
    omega
theorem lpS_ge {v c : Nat} (hv : v < n) : wto W B n v c ≤ lpS W B n n (B v) c := by
  have e := sN_ge (f := fun x => if B x = B v then wto W B n x c else 0) n hv
  rw [if_pos rfl] at e
  exact e
theorem lpS_pos {a c : Nat} (h : 0 < lpS W B n n a c) : ∃ v, v < n ∧ B v = a ∧ 0 < wto W B n v c := by
  obtain ⟨v, h1, h2⟩ := sN_one n h
  by_cases e : B v = a
  · rw [if_pos e] at h2
    exact ⟨v, h1, e, h2⟩
  · rw [if_neg e] at h2
    omega
theorem lpS_zS (a c : Nat) : ((lpS W B n n a c : Nat) : Int) = zS (fun x => zS (fun u => if B x = a ∧ B u = c then ((W (x * 6 + u) : Nat) : Int) else 0) 0 n) 0 n := by
  unfold lpS
  rw [← zS_sN]
  refine zS_cong n (fun x _ _ => ?_)
  show (((if B x = a then wto W B n x c else 0 : Nat)) : Int) = _
  by_cases e : B x = a
  · rw [if_pos e]
    unfold wto
    rw [← zS_sN]
    refine zS_cong n (fun u _ _ => ?_)
    by_cases e2 : B u = c
    · rw [if_pos e2, if_pos ⟨e, e2⟩]
    · rw [if_neg e2, if_neg (fun z => e2 z.2)]
      rfl
  · rw [if_neg e]
    refine Eq.symm (Eq.trans (zS_cong n (fun u _ _ => if_neg (fun z => e z.1))) (zS_zero 0 n))
theorem lpS_sym (hy : ∀ x y, x < n → y < n → W (x * 6 + y) = W (y * 6 + x)) (a c : Nat) : lpS W B n n a c = lpS W B n n c a := by
  have e : ((lpS W B n n a c : Nat) : Int) = ((lpS W B n n c a : Nat) : Int) := by
    rw [lpS_zS, lpS_zS, zS_swap]
    refine zS_cong n (fun x _ hx => zS_cong n (fun u _ hu => ?_))
    show (if B u = a ∧ B x = c then ((W (u * 6 + x) : Nat) : Int) else 0) = if B x = c ∧ B u = a then ((W (x * 6 + u) : Nat) : Int) else 0
    rw [hy u x (by omega) (by omega)]
    by_cases e : B u = a ∧ B x = c
    · rw [if_pos e, if_pos ⟨e.2, e.1⟩]
    · rw [if_neg e, if_neg (fun z => e ⟨z.2, z.1⟩)]
  omega
/-- lumpable -/
def lum (W B : Nat → Nat) (n b : Nat) : Prop := ∀ x y c, x < n → y < n → B x = B y → c < b → c ≠ B x → wto W B n x c * dg1 W n y = wto W B n y c * dg1 W n x
theorem lum.at (h : lum W B n b) {x y c : Nat} (hx : x < n) (hy : y < n) (hB : B x = B y) (hc : c < b) (hc2 : c ≠ B x) (hd : 0 < degN W x n) : wto W B n x c * degN W y n = wto W B n y c * degN W x n := by
  have e := h x y c hx hy hB hc hc2
  have e1 : dg1 W n x = degN W x n := by unfold dg1; omega
  rw [e1] at e
  by_cases c0 : degN W y n = 0
  · have e2 : dg1 W n y = 1 := by unfold dg1; omega
    have e3 := wto_dg (W := W) (B := B) (n := n) y c
    have e4 : wto W B n y c = 0 := by omega
    rw [e2, e4, Nat.zero_mul, Nat.mul_one] at e
    rw [e, e4, Nat.zero_mul, Nat.zero_mul]
  · have e2 : dg1 W n y = degN W y n := by unfold dg1; omega
    rw [e2] at e
    exact e
theorem lum.sum (h : lum W B n b) {u c : Nat} (hu : u < n) (hc : c < b) (hc2 : c ≠ B u) (hd : 0 < degN W u n) : wto W B n u c * lgS W B n n (B u) = lpS W B n n (B u) c * degN W u n := by
  unfold lgS lpS
  rw [sN_mul, Nat.mul_comm _ (degN W u n), sN_mul]
  refine sN_cong n (fun x hx => ?_)
  show wto W B n u c * (if B x = B u then degN W x n else 0) = degN W u n * (if B x = B u then wto W B n x c else 0)
  by_cases e : B x = B u
  · rw [if_pos e, if_pos e, h.at hu hx e.symm hc hc2 hd, Nat.mul_comm]
  · rw [if_neg e, if_neg e, Nat.mul_zero, Nat.mul_zero]
theorem lgS_ge {v : Nat} (hv : v < n) : degN W v n ≤ lgS W B n n (B v) := by
  have e := sN_ge (f := fun x => if B x = B v then degN W x n else 0) n hv
  rw [if_pos rfl] at e
  exact e
end
section
variable {G : GT}
theorem lpF_ne {i j : Nat} (hy : ∀ x y, x < G.n → y < G.n → G.W (x * 6 + y) = G.W (y * 6 + x)) (hb : G.b ≤ 6) (hi : i < G.b) (hj : j < G.b) (h : i ≠ j) : lpF G (i * 6 + j) = lpS G.W G.B G.n G.n i j := by
  rw [lpF_at G (by omega)]
  unfold lpW
  by_cases c : i < j
  · rw [if_pos c, if_pos hj]
  · rw [if_neg c, if_pos (by omega), if_pos hi]
    exact lpS_sym hy j i
theorem lpF_dg {i : Nat} (hi : i < 6) : lpF G (i * 6 + i) = 0 := by
  rw [lpF_at G (by omega)]
  unfold lpW
  rw [if_neg (by omega), if_neg (by omega)]
theorem lpF_gd (hW : gdW G.W G.n) (hb : G.b ≤ 6) : gd3 (lpF G) G.b := by
  refine ⟨hb, fun x hx => lpF_dg (by omega), fun x y hx hy => ?_⟩
  by_cases c : x = y
  · rw [c]
  · rw [lpF_ne hW.2.2.1 hb hx hy c, lpF_ne hW.2.2.1 hb hy hx (fun z => c z.symm), lpS_sym hW.2.2.1]
/-- the blocks of what is reached are reached -/
theorem blk_up (hW : gdW G.W G.n) (hb : G.b ≤ 6) (hB : ∀ u, u < G.n → G.B u < G.b) {x v : Nat} (hx : x < G.n) (hv : v < G.n) (h : (rcm G.W G.n x).testBit v = true) : (rcm (lpF G) G.b (G.B x)).testBit (G.B v) = true := by
  refine rcm_ind (W := G.W) (n := G.n) (x := x) (fun v => (rcm (lpF G) G.b (G.B x)).testBit (G.B v) = true) (fun a c ha hc h1 h2 => ?_) hx rcm_self hv h
  by_cases e : G.B a = G.B c
  · rw [← e]
    exact h1
  · refine rcm_clo (hB x hx) hb _ _ (hB a ha) (hB c hc) h1 ?_
    rw [lpF_ne hW.2.2.1 hb (hB a ha) (hB c hc) e]
    have e1 := wto_ge (W := G.W) (B := G.B) (n := G.n) (v := a) hc rfl
    have e2 := lpS_ge (W := G.W) (B := G.B) (n := G.n) (c := G.B c) ha
    omega
/-- a block reached holds a vertex reached -/
theorem blk_dn (hW : gdW G.W G.n) (hb : G.b ≤ 6) (hB : ∀ u, u < G.n → G.B u < G.b) (hl : lum G.W G.B G.n G.b) {x j : Nat} (hx : x < G.n) (hj : j < G.b) (h : (rcm (lpF G) G.b (G.B x)).testBit j = true) : ∃ v, v < G.n ∧ (rcm G.W G.n x).testBit v = true ∧ G.B v = j := by
  refine rcm_ind (W := lpF G) (n := G.b) (x := G.B x) (fun j => ∃ v, v < G.n ∧ (rcm G.W G.n x).testBit v = true ∧ G.B v = j) (fun a c ha hc h1 h2 => ?_) (hB x hx) ⟨x, hx, rcm_self, rfl⟩ hj h
  obtain ⟨v, v1, v2, v3⟩ := h1
  have hne : a ≠ c := by
    intro z
    rw [z, lpF_dg (by omega)] at h2
    omega
  rw [lpF_ne hW.2.2.1 hb ha hc hne] at h2
  obtain ⟨w, w1, w2, w3⟩ := lpS_pos h2
  have e := hl v w c v1 w1 (by rw [v3, w2]) hc (by rw [v3]; exact fun z => hne z.symm)
  have e1 : 0 < dg1 G.W G.n v := by unfold dg1; omega
  have e2 := Nat.mul_pos w3 e1
  have e3 : 0 < wto G.W G.B G.n v c := by
    refine Nat.pos_of_ne_zero (fun z => ?_)
    rw [z, Nat.zero_mul] at e
    omega
  obtain ⟨u, u1, u2, u3⟩ := wto_pos e3
  exact ⟨u, u1, rcm_clo hx hW.1 v u v1 u1 v2 u3, u2⟩
end

