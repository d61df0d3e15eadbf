/-! ===== the lumped mean: both sides alike ===== -/
section
variable {W : Nat → Nat} {n : Nat} {q : Nat → Bool}
theorem asc_in {u : Nat} (hu : u < n) (h : q u = true) : iS (fun i => (ascL q n).getD i 0) (ascL q n).length u = true := iS_iff.mpr ⟨(ascL q u).length, asc_lt q hu h, asc_get q h n hu⟩
theorem asc_at {c : Nat} (hc : c < (ascL q n).length) : (ascL q ((ascL q n).getD c 0)).length = c := by
  obtain ⟨y, g1, g2, g3⟩ := asc_sur q n c hc
  have e := asc_get q g2 n g1
  rw [g3] at e
  rw [e, g3]
/-- a row of the equations, over all vertices -/
theorem lap_eq (hz : ∀ x, x < n → W (x * 6 + x) = 0) {g h : Nat → Int} (hh : ∀ u, u < n → q u = false → h u = 0) {r : Nat} (hr : r < (ascL q n).length) : zS (fun c => rMt W n (ascL q n) g (-1) r c * h ((ascL q n).getD c 0)) 0 (ascL q n).length = ((degN W ((ascL q n).getD r 0) n : Nat) : Int) * h ((ascL q n).getD r 0) - zS (fun u => ((W ((ascL q n).getD r 0 * 6 + u) : Nat) : Int) * h u) 0 n := by
  have hs := asc_enu (q := q) (n := n)
  have e1 : zS (fun c => rMt W n (ascL q n) g (-1) r c * h ((ascL q n).getD c 0)) 0 (ascL q n).length = zS (fun c => (if c = r then ((degN W ((ascL q n).getD r 0) n : Nat) : Int) * h ((ascL q n).getD r 0) else 0) - ((W ((ascL q n).getD r 0 * 6 + (ascL q n).getD c 0) : Nat) : Int) * h ((ascL q n).getD c 0)) 0 (ascL q n).length := by
    refine zS_cong _ (fun c _ hc => ?_)
    show rMt W n (ascL q n) g (-1) r c * h ((ascL q n).getD c 0) = (if c = r then ((degN W ((ascL q n).getD r 0) n : Nat) : Int) * h ((ascL q n).getD r 0) else 0) - ((W ((ascL q n).getD r 0 * 6 + (ascL q n).getD c 0) : Nat) : Int) * h ((ascL q n).getD c 0)
    rw [rMt, if_neg (by omega), lpl_lap hs hr (by omega), lapM]
    by_cases c1 : r = c
    · subst c1
      have h0 : W ((ascL q n).getD r 0 * 6 + (ascL q n).getD r 0) = 0 := hz _ (hs.1 r hr)
      rw [if_pos rfl, if_pos rfl, h0]
      show _ = _ - (0 : Int) * _
      rw [Int.zero_mul, Int.sub_zero]
    · rw [if_neg c1, if_neg (fun z => c1 z.symm), Int.neg_mul]
      show _ = 0 - ((W ((ascL q n).getD r 0 * 6 + (ascL q n).getD c 0) : Nat) : Int) * h ((ascL q n).getD c 0)
      omega
  have e2 := zS_enu hs (fun u => ((W ((ascL q n).getD r 0 * 6 + u) : Nat) : Int) * h u) (ascL q n).length (Nat.le_refl _)
  have e3 : zS (fun u => if iS (fun i => (ascL q n).getD i 0) (ascL q n).length u = true then ((W ((ascL q n).getD r 0 * 6 + u) : Nat) : Int) * h u else 0) 0 n = zS (fun u => ((W ((ascL q n).getD r 0 * 6 + u) : Nat) : Int) * h u) 0 n := by
    refine zS_cong n (fun u _ hu => ?_)
    show (if iS (fun i => (ascL q n).getD i 0) (ascL q n).length u = true then ((W ((ascL q n).getD r 0 * 6 + u) : Nat) : Int) * h u else 0) = ((W ((ascL q n).getD r 0 * 6 + u) : Nat) : Int) * h u
    cases c : q u with
    | true => rw [if_pos (asc_in (by omega) c)]
    | false =>
      rw [asc_iS c, if_neg (by intro z; cases z), hh u (by omega) c, Int.mul_zero]
  rw [e1, zS_sub, zS_one, if_pos hr]
  rw [← e3, ← e2]
theorem rMt_rp {g : Nat → Int} {p : Nat} {m : Nat} (hm : m ≤ 5) (l : List Nat) : lm (rpC (rMt W n l g (-1)) p (fun i => g (l.getD i 0))) m = lm (rMt W n l g p) m := by
  refine lm_cong hm (fun i j _ _ => ?_)
  unfold rpC rMt
  by_cases c : j = p
  · rw [if_pos c, if_pos (by omega)]
  · rw [if_neg c, if_neg (by omega), if_neg (by omega)]
/-- what reaches another vertex has edges -/
theorem deg_pos (hW : gdW W n) {x v t : Nat} (hx : x < n) (hv : v < n) (ht : t < n) (h1 : (rcm W n x).testBit v = true) (h2 : (rcm W n x).testBit t = true) (hne : v ≠ t) : 0 < degN W v n := by
  refine Nat.pos_of_ne_zero (fun z => ?_)
  have hno : ∀ c, c < n → W (v * 6 + c) = 0 := fun c hc => by
    have : W (v * 6 + c) ≤ degN W v n := sN_ge (f := fun u => W (v * 6 + u)) n hc
    omega
  by_cases c : x = v
  · refine hne (rcm_ind (W := W) (n := n) (x := x) (fun u => v = u) (fun a b ha hb e1 e2 => ?_) hx c.symm ht h2)
    rw [← e1, hno b hb] at e2
    omega
  · refine (rcm_ind (W := W) (n := n) (x := x) (fun u => u ≠ v) (fun a b ha hb e1 e2 e3 => ?_) hx c hv h1) rfl
    rw [e3, hW.2.2.1 a v ha hv, hno a ha] at e2
    omega
end
theorem stM_bit {B : Nat → Nat} {b t : Nat} : ∀ n, (stM B b n).testBit t = true ↔ t < n ∧ B t = b
  | 0 => by simp [stM]
  | n + 1 => by
    have ih := stM_bit (B := B) (b := b) (t := t) n
    rw [stM]
    split
    · rename_i c
      rw [or_bit, ih, p2_bit]
      constructor
      · rintro (h | h)
        · exact ⟨by omega, h.2⟩
        · rw [← h]
          exact ⟨by omega, c⟩
      · intro h
        by_cases e : t = n
        · exact Or.inr e.symm
        · exact Or.inl ⟨by omega, h.2⟩
    · rename_i c
      rw [ih]
      constructor
      · exact fun h => ⟨by omega, h.2⟩
      · intro h
        by_cases e : t = n
        · rw [e] at h
          exact absurd h.2 c
        · exact ⟨by omega, h.2⟩
theorem ntF {b : Bool} (h : b ≠ true) : b = false := by cases b <;> simp_all
section
variable {G : GT}
/-- the way between blocks -/
theorem blk_way (hW : gdW G.W G.n) (hb : G.b ≤ 6) (hB : ∀ u, u < G.n → G.B u < G.b) (hl : lum G.W G.B G.n G.b) {x j : Nat} (hx : x < G.n) (hj : j < G.b) : (rcm (lpF G) G.b (G.B x)).testBit j = true ↔ rcm G.W G.n x &&& stM G.B j G.n ≠ 0 := by
  rw [met_iff hW hx]
  constructor
  · intro h
    obtain ⟨v, h1, h2, h3⟩ := blk_dn hW hb hB hl hx hj h
    exact ⟨v, h1, h2, (stM_bit G.n).mpr ⟨h1, h3⟩⟩
  · rintro ⟨t, h1, h2, h3⟩
    have e := blk_up hW hb hB hx h1 h2
    rw [((stM_bit G.n).mp h3).2] at e
    exact e
theorem lmp_eq (hW : gdW G.W G.n) (hb : G.b ≤ 6) (hB : ∀ u, u < G.n → G.B u < G.b) (hl : lum G.W G.B G.n G.b) {x j : Nat} (hx : x < G.n) (hj : j < G.b) (hij : G.B x ≠ j) (hr : (rcm (lpF G) G.b (G.B x)).testBit j = true) {q q' : Nat → Bool} (hq : q = unP (rcm G.W G.n x) (stM G.B j G.n)) (hq' : q' = unP (rcm (lpF G) G.b (G.B x)) (2 ^ j)) :
    lm (rMt (lpF G) G.b (ascL q' G.b) (lgF G) (-1)) (ascL q' G.b).length * lm (rMt G.W G.n (ascL q G.n) (stG G.W G.n) (ascL q x).length) (ascL q G.n).length = lm (rMt (lpF G) G.b (ascL q' G.b) (lgF G) (ascL q' (G.B x)).length) (ascL q' G.b).length * lm (rMt G.W G.n (ascL q G.n) (stG G.W G.n) (-1)) (ascL q G.n).length := by
  have hL := lpF_gd hW hb
  have hi := hB x hx
  obtain ⟨t, t1, t2, t3⟩ := blk_dn hW hb hB hl hx hj hr
  have hTx : (stM G.B j G.n).testBit x = false := ntF (fun z => hij ((stM_bit G.n).mp z).2)
  have hTx' : (2 ^ j : Nat).testBit (G.B x) = false := ntF (fun z => hij (p2_bit.mp z).symm)
  have hk := lkq_of (W := G.W) (n := G.n) (x := x) (T := stM G.B j G.n) ⟨t, t1, t2, (stM_bit G.n).mpr ⟨t1, t3⟩⟩
  have hk' := lkq_of (W := lpF G) (n := G.b) (x := G.B x) (T := 2 ^ j) ⟨j, hj, hr, p2_bit.mpr rfl⟩
  have hqx : q x = true := by rw [hq]; exact unP_self hTx
  have hqx' : q' (G.B x) = true := by rw [hq']; exact unP_self hTx'
  rw [← hq] at hk
  rw [← hq'] at hk'
  have hm := hk.five hW.1
  have hm' := hk'.five hb
  have qv : ∀ u, q u = true ↔ (rcm G.W G.n x).testBit u = true ∧ (stM G.B j G.n).testBit u = false := by
    intro u
    rw [hq, unP, Bool.and_eq_true]
    cases (stM G.B j G.n).testBit u <;> simp
  have qv' : ∀ u, q' u = true ↔ (rcm (lpF G) G.b (G.B x)).testBit u = true ∧ (2 ^ j : Nat).testBit u = false := by
    intro u
    rw [hq', unP, Bool.and_eq_true]
    cases (2 ^ j : Nat).testBit u <;> simp
  have hj0 : q' j = false := ntF (fun z => by
    have := ((qv' j).mp z).2
    rw [p2_bit.mpr rfl] at this
    cases this)
  generalize hA' : rMt (lpF G) G.b (ascL q' G.b) (lgF G) (-1) = A'
  obtain ⟨H, hH⟩ : ∃ H : Nat → Int, H = fun c => if q' c = true then lm (rpC A' (ascL q' c).length (fun i => lgF G ((ascL q' G.b).getD i 0))) (ascL q' G.b).length else 0 := ⟨_, rfl⟩
  have H0 : ∀ u, q' u = false → H u = 0 := fun u h => by
    rw [hH]
    show (if q' u = true then _ else 0) = (0 : Int)
    rw [h, if_neg (by intro z; cases z)]
  have H1 : ∀ u, q' u = true → H u = lm (rpC A' (ascL q' u).length (fun i => lgF G ((ascL q' G.b).getD i 0))) (ascL q' G.b).length := fun u h => by
    rw [hH]
    exact if_pos h
  -- the blocks' equations
  have eqL : ∀ c, c < G.b → q' c = true → ((degN (lpF G) c G.b : Nat) : Int) * H c - zS (fun u => ((lpF G (c * 6 + u) : Nat) : Int) * H u) 0 G.b = lgF G c * lm A' (ascL q' G.b).length := by
    intro c hc hqc
    have hcl := asc_lt q' hc hqc
    have e1 := cram hm' A' (fun i => lgF G ((ascL q' G.b).getD i 0)) hcl
    have e2 := lap_eq (W := lpF G) (n := G.b) (q := q') (g := lgF G) (h := H) hL.2.1 (fun u _ h => H0 u h) hcl
    rw [asc_get q' hqc G.b hc, hA'] at e2
    have e3 : zS (fun k => A' (ascL q' c).length k * H ((ascL q' G.b).getD k 0)) 0 (ascL q' G.b).length = zS (fun k => A' (ascL q' c).length k * lm (rpC A' k (fun i => lgF G ((ascL q' G.b).getD i 0))) (ascL q' G.b).length) 0 (ascL q' G.b).length := by
      refine zS_cong _ (fun k _ hk => ?_)
      show A' (ascL q' c).length k * H ((ascL q' G.b).getD k 0) = A' (ascL q' c).length k * lm (rpC A' k (fun i => lgF G ((ascL q' G.b).getD i 0))) (ascL q' G.b).length
      rw [H1 _ (asc_q (by omega)), asc_at (by omega)]
    rw [e3, e1] at e2
    rw [← e2]
    show lgF G ((ascL q' G.b).getD (ascL q' c).length 0) * lm A' (ascL q' G.b).length = _
    rw [asc_get q' hqc G.b hc]
  -- the vertices' equations
  have eqW : ∀ v, v < G.n → q v = true → ((degN G.W v G.n : Nat) : Int) * H (G.B v) - zS (fun u => ((wto G.W G.B G.n v u : Nat) : Int) * H u) 0 G.b = ((degN G.W v G.n : Nat) : Int) * lm A' (ascL q' G.b).length := by
    intro v hv hqv
    obtain ⟨v1, v2⟩ := (qv v).mp hqv
    have hvj : G.B v ≠ j := fun z => by
      rw [(stM_bit G.n).mpr ⟨hv, z⟩] at v2
      cases v2
    have hq2 : q' (G.B v) = true := (qv' _).mpr ⟨blk_up hW hb hB hx hv v1, ntF (fun z => hvj (p2_bit.mp z).symm)⟩
    have hdv : 0 < degN G.W v G.n := deg_pos hW hx hv t1 v1 t2 (fun z => hvj (by rw [z, t3]))
    have hlg : 0 < lgS G.W G.B G.n G.n (G.B v) := Nat.lt_of_lt_of_le hdv (lgS_ge hv)
    have e1 := eqL (G.B v) (hB v hv) hq2
    have d1 := wto_deg (W := G.W) hB v
    have d2 := zS_sN (fun u => lpF G (G.B v * 6 + u)) G.b
    have s1 : ((degN G.W v G.n : Nat) : Int) * H (G.B v) - zS (fun u => ((wto G.W G.B G.n v u : Nat) : Int) * H u) 0 G.b = zS (fun u => ((wto G.W G.B G.n v u : Nat) : Int) * (H (G.B v) - H u)) 0 G.b := by
      rw [← d1, zS_mul, ← zS_sub]
      exact zS_cong _ (fun u _ _ => (Int.mul_sub ..).symm)
    have s2 : ((degN (lpF G) (G.B v) G.b : Nat) : Int) * H (G.B v) - zS (fun u => ((lpF G (G.B v * 6 + u) : Nat) : Int) * H u) 0 G.b = zS (fun u => ((lpF G (G.B v * 6 + u) : Nat) : Int) * (H (G.B v) - H u)) 0 G.b := by
      unfold degN
      rw [← d2, zS_mul, ← zS_sub]
      exact zS_cong _ (fun u _ _ => (Int.mul_sub ..).symm)
    have s3 : zS (fun u => ((wto G.W G.B G.n v u : Nat) : Int) * (H (G.B v) - H u)) 0 G.b * ((lgS G.W G.B G.n G.n (G.B v) : Nat) : Int) = zS (fun u => ((lpF G (G.B v * 6 + u) : Nat) : Int) * (H (G.B v) - H u)) 0 G.b * ((degN G.W v G.n : Nat) : Int) := by
      rw [zS_mul, zS_mul]
      refine zS_cong _ (fun u _ hu => ?_)
      show ((wto G.W G.B G.n v u : Nat) : Int) * (H (G.B v) - H u) * ((lgS G.W G.B G.n G.n (G.B v) : Nat) : Int) = ((lpF G (G.B v * 6 + u) : Nat) : Int) * (H (G.B v) - H u) * ((degN G.W v G.n : Nat) : Int)
      by_cases c : u = G.B v
      · rw [c, Int.sub_self, Int.mul_zero, Int.mul_zero, Int.zero_mul, Int.zero_mul]
      · have e := hl.sum hv (by omega) c hdv
        have e' : ((wto G.W G.B G.n v u : Nat) : Int) * ((lgS G.W G.B G.n G.n (G.B v) : Nat) : Int) = ((lpS G.W G.B G.n G.n (G.B v) u : Nat) : Int) * ((degN G.W v G.n : Nat) : Int) := by
          rw [← Int.natCast_mul, ← Int.natCast_mul, e]
        rw [lpF_ne hW.2.2.1 hb (hB v hv) (by omega) (fun z => c z.symm), Int.mul_right_comm, e', Int.mul_right_comm]
    rw [s1]
    rw [s2] at e1
    rw [e1] at s3
    have hlg' : (0 : Int) < ((lgS G.W G.B G.n G.n (G.B v) : Nat) : Int) := by omega
    refine Int.eq_of_mul_eq_mul_right (by omega : ((lgS G.W G.B G.n G.n (G.B v) : Nat) : Int) ≠ 0) (s3.trans ?_)
    show ((lgS G.W G.B G.n G.n (G.B v) : Nat) : Int) * lm A' (ascL q' G.b).length * ((degN G.W v G.n : Nat) : Int) = ((degN G.W v G.n : Nat) : Int) * lm A' (ascL q' G.b).length * ((lgS G.W G.B G.n G.n (G.B v) : Nat) : Int)
    generalize lm A' (ascL q' G.b).length = z1
    generalize ((lgS G.W G.B G.n G.n (G.B v) : Nat) : Int) = z2
    generalize ((degN G.W v G.n : Nat) : Int) = z3
    grind
  -- lifted
  obtain ⟨hh, hhd⟩ : ∃ h : Nat → Int, h = fun u => if q u = true then H (G.B u) else 0 := ⟨_, rfl⟩
  have h0 : ∀ u, q u = false → hh u = 0 := fun u h => by
    rw [hhd]
    show (if q u = true then _ else 0) = (0 : Int)
    rw [h, if_neg (by intro z; cases z)]
  have h1 : ∀ u, q u = true → hh u = H (G.B u) := fun u h => by
    rw [hhd]
    exact if_pos h
  have row : ∀ r, r < (ascL q G.n).length → zS (fun c => rMt G.W G.n (ascL q G.n) (stG G.W G.n) (-1) r c * hh ((ascL q G.n).getD c 0)) 0 (ascL q G.n).length = lm A' (ascL q' G.b).length * stG G.W G.n ((ascL q G.n).getD r 0) := by
    intro r hr
    have hv : (ascL q G.n).getD r 0 < G.n := asc_enu.1 r hr
    have hqv := asc_q (q := q) hr
    rw [lap_eq hW.2.1 (fun u _ h => h0 u h) hr, h1 _ hqv]
    have e := eqW _ hv hqv
    rw [wto_sum hB H] at e
    have e2 : zS (fun u => ((G.W ((ascL q G.n).getD r 0 * 6 + u) : Nat) : Int) * hh u) 0 G.n = zS (fun u => ((G.W ((ascL q G.n).getD r 0 * 6 + u) : Nat) : Int) * H (G.B u)) 0 G.n := by
      refine zS_cong _ (fun u _ hu => ?_)
      show ((G.W ((ascL q G.n).getD r 0 * 6 + u) : Nat) : Int) * hh u = ((G.W ((ascL q G.n).getD r 0 * 6 + u) : Nat) : Int) * H (G.B u)
      cases c : q u with
      | true => rw [h1 u c]
      | false =>
        rw [h0 u c, Int.mul_zero]
        by_cases c1 : (rcm G.W G.n x).testBit u = true
        · have c2 : (stM G.B j G.n).testBit u = true := by
            cases c3 : (stM G.B j G.n).testBit u with
            | true => rfl
            | false =>
              rw [(qv u).mpr ⟨c1, c3⟩] at c
              cases c
          rw [((stM_bit G.n).mp c2).2, H0 j hj0, Int.mul_zero]
        · have c2 : G.W ((ascL q G.n).getD r 0 * 6 + u) = 0 := by
            refine Classical.byContradiction (fun z => c1 ?_)
            exact rcm_clo hx hW.1 _ u hv (by omega) ((qv _).mp hqv).1 (by omega)
          rw [c2]
          exact (Int.zero_mul _).symm
    rw [e2, e, Int.mul_comm]
    rfl
  have hp := asc_lt q hx hqx
  have fin := cramU hm hp row
  rw [rMt_rp hm] at fin
  rw [fin, asc_get q hqx G.n hx, h1 x hqx, H1 _ hqx', ← hA', rMt_rp hm']
end

