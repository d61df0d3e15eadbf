/-! ===== lumpable, and the lumped steps ===== -/
theorem fst_all {p : Nat → Bool} {n : Nat} (h : ¬ fstN p n < n) : ∀ k, k < n → p k = false := by
  intro k hk
  obtain ⟨h1, h2, -⟩ := fstN_spec p n
  exact h2 k (by omega)
theorem lum_lt {W B : Nat → Nat} {n b x y c : Nat} (h : ¬ pqX W B n b < n) (hx : x < n) (hy : y < n) (hxy : x < y) (hB : B x = B y) (hc : c < b) (hc2 : c ≠ B x) : wto W B n x c * dg1 W n y = wto W B n y c * dg1 W n x := by
  have e1 := fst_all h x hx
  have e2 : ¬ pqY W B n b x < n := of_decide_eq_false e1
  have e3 := fst_all e2 y hy
  unfold pqB at e3
  rw [decide_eq_true hxy, decide_eq_true hB, Bool.true_and, Bool.true_and] at e3
  have e4 := fst_all (of_decide_eq_false e3) c hc
  unfold dfB at e4
  rw [decide_eq_true hc2, Bool.true_and] at e4
  exact Decidable.of_not_not (of_decide_eq_false e4)
theorem lum_of {G : GT} (h : ptB G = false) : lum G.W G.B G.n G.b := by
  have h1 : ¬ pqX G.W G.B G.n G.b < G.n := of_decide_eq_false h
  intro x y c hx hy hB hc hc2
  rcases Nat.lt_trichotomy x y with q | q | q
  · exact lum_lt h1 hx hy q hB hc hc2
  · rw [q]
  · exact (lum_lt h1 hy hx q hB.symm hc (by rw [← hB]; exact hc2)).symm
section
variable {G : GT}
theorem lst_eq (hW : gdW G.W G.n) (hb : G.b ≤ 6) (hB : ∀ u, u < G.n → G.B u < G.b) (hl : lum G.W G.B G.n G.b) {x j : Nat} (hx : x < G.n) (hj : j < G.b) : rdA (bcN (lpG G) (lgF G) (G.B x) j) (bcD (lgF G) (G.B x)) = frA (tbM G.W G.B G.n x j : Nat) (byM G.W G.n x : Nat) ∧ rdB (bcN (lpG G) (lgF G) (G.B x) j) (bcD (lgF G) (G.B x)) = frB (tbM G.W G.B G.n x j : Nat) (byM G.W G.n x : Nat) := by
  have hi := hB x hx
  have hby : (0 : Int) < (byM G.W G.n x : Nat) := by
    unfold byM
    split <;> omega
  rw [(fr_rd hby).1, (fr_rd hby).2]
  have hge := lgS_ge (W := G.W) (B := G.B) hx
  have eLn : (lpG G).n = G.b := rfl
  have eLW : (lpG G).W = lpF G := rfl
  have ebc : bcN (lpG G) (lgF G) (G.B x) j = if ((lgS G.W G.B G.n G.n (G.B x) : Nat) : Int) ≤ 0 then (if G.B x = j then 1 else 0) else if G.B x = j then ((lgS G.W G.B G.n G.n (G.B x) : Nat) : Int) - (degN (lpF G) (G.B x) G.b : Nat) else (lpF G (G.B x * 6 + j) : Nat) := rfl
  have ebd : bcD (lgF G) (G.B x) = if ((lgS G.W G.B G.n G.n (G.B x) : Nat) : Int) ≤ 0 then 1 else ((lgS G.W G.B G.n G.n (G.B x) : Nat) : Int) := rfl
  rw [ebc, ebd]
  by_cases c1 : ((lgS G.W G.B G.n G.n (G.B x) : Nat) : Int) ≤ 0
  · rw [if_pos c1, if_pos c1, tbM, byM, if_pos (show degN G.W x G.n = 0 by omega), if_pos (show degN G.W x G.n = 0 by omega)]
    by_cases c2 : G.B x = j
    · rw [if_pos c2, if_pos c2]
      exact ⟨rfl, rfl⟩
    · rw [if_neg c2, if_neg c2]
      exact ⟨rfl, rfl⟩
  · rw [if_neg c1, if_neg c1]
    have hlg : (0 : Int) < ((lgS G.W G.B G.n G.n (G.B x) : Nat) : Int) := by omega
    refine rd_cross hlg hby ?_
    by_cases c0 : degN G.W x G.n = 0
    · -- no edge leaves the block
      have w0 : ∀ c, wto G.W G.B G.n x c = 0 := fun c => by
        have := wto_dg (W := G.W) (B := G.B) (n := G.n) x c
        omega
      have l0 : ∀ c, c < G.b → lpF G (G.B x * 6 + c) = 0 := by
        intro c hc
        by_cases e : G.B x = c
        · rw [← e]
          exact lpF_dg (by omega)
        · rw [lpF_ne hW.2.2.1 hb hi hc e]
          refine sN_no G.n (fun v hv => ?_)
          show (if G.B v = G.B x then wto G.W G.B G.n v c else 0) = 0
          by_cases e2 : G.B v = G.B x
          · rw [if_pos e2]
            have e3 := hl x v c hx hv e2.symm hc (fun z => e z.symm)
            rw [w0 c, Nat.zero_mul] at e3
            have e4 := dg1_pos G.W G.n x
            rcases Nat.mul_eq_zero.mp e3.symm with q | q
            · exact q
            · omega
          · rw [if_neg e2]
      have d0 : degN (lpF G) (G.B x) G.b = 0 := sN_no G.b (fun c hc => l0 c hc)
      rw [tbM, byM, if_pos c0, if_pos c0, d0, l0 j hj]
      by_cases c2 : G.B x = j
      · rw [if_pos c2, if_pos c2]
        show (((lgS G.W G.B G.n G.n (G.B x) : Nat) : Int) - 0) * 1 = 1 * _
        omega
      · rw [if_neg c2, if_neg c2]
        show (0 : Int) * 1 = 0 * _
        rw [Int.zero_mul, Int.zero_mul]
    · rw [tbM, byM, if_neg c0, if_neg c0]
      have hd : 0 < degN G.W x G.n := by omega
      have term : ∀ c, c < G.b → c ≠ G.B x → ((lpF G (G.B x * 6 + c) : Nat) : Int) * ((degN G.W x G.n : Nat) : Int) = ((wto G.W G.B G.n x c : Nat) : Int) * ((lgS G.W G.B G.n G.n (G.B x) : Nat) : Int) := by
        intro c hc hne
        rw [lpF_ne hW.2.2.1 hb hi hc (fun z => hne z.symm), ← Int.natCast_mul, ← Int.natCast_mul, hl.sum hx hc hne hd]
      by_cases c2 : G.B x = j
      · rw [if_pos c2]
        have s1 : ((degN (lpF G) (G.B x) G.b : Nat) : Int) * ((degN G.W x G.n : Nat) : Int) = zS (fun c => ((wto G.W G.B G.n x c : Nat) : Int) * ((lgS G.W G.B G.n G.n (G.B x) : Nat) : Int) - (if c = G.B x then ((wto G.W G.B G.n x (G.B x) : Nat) : Int) * ((lgS G.W G.B G.n G.n (G.B x) : Nat) : Int) else 0)) 0 G.b := by
          have e : ((degN (lpF G) (G.B x) G.b : Nat) : Int) = zS (fun c => ((lpF G (G.B x * 6 + c) : Nat) : Int)) 0 G.b := (zS_sN _ _).symm
          rw [e, zS_mul]
          refine zS_cong _ (fun c _ hc => ?_)
          show ((lpF G (G.B x * 6 + c) : Nat) : Int) * ((degN G.W x G.n : Nat) : Int) = ((wto G.W G.B G.n x c : Nat) : Int) * ((lgS G.W G.B G.n G.n (G.B x) : Nat) : Int) - (if c = G.B x then ((wto G.W G.B G.n x (G.B x) : Nat) : Int) * ((lgS G.W G.B G.n G.n (G.B x) : Nat) : Int) else 0)
          by_cases e2 : c = G.B x
          · rw [if_pos e2, e2, lpF_dg (by omega), Int.sub_self]
            exact Int.zero_mul _
          · rw [if_neg e2, Int.sub_zero]
            exact term c (by omega) e2
        rw [zS_sub, zS_one, if_pos hi, ← zS_mul, wto_deg hB x] at s1
        rw [← c2, Int.sub_mul, s1, Int.mul_comm ((degN G.W x G.n : Nat) : Int)]
        omega
      · rw [if_neg c2]
        exact term j hj (fun z => c2 z.symm)
end

