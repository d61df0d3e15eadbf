/-! ===== the component's answers: edge, lumped, checksum; append ===== -/
theorem degN_cong {W W2 : Nat → Nat} {k n : Nat} (h : ∀ u, u < n → W (k * 6 + u) = W2 (k * 6 + u)) : degN W k n = degN W2 k n := sN_cong n h
theorem nbm_cong {W W2 : Nat → Nat} {k : Nat} : ∀ {n : Nat}, (∀ u, u < n → W (k * 6 + u) = W2 (k * 6 + u)) → nbm W k n = nbm W2 k n
  | 0, _ => rfl
  | n + 1, h => by rw [nbm, nbm, nbm_cong (fun u hu => h u (by omega)), h n (by omega)]
theorem cIn_cong {W W2 : Nat → Nat} {n S : Nat} (h : ∀ k u, k < n → u < n → W (k * 6 + u) = W2 (k * 6 + u)) : ∀ u, u ≤ n → cIn W n S u = cIn W2 n S u
  | 0, _ => rfl
  | u + 1, hu => by rw [cIn, cIn, cIn_cong h u (by omega), nbm_cong (fun w hw => h u w (by omega) hw)]
theorem cOut_cong {W W2 : Nat → Nat} {n x : Nat} (h : ∀ k u, k < n → u < n → W (k * 6 + u) = W2 (k * 6 + u)) : ∀ r, cOut W n x r = cOut W2 n x r
  | 0 => rfl
  | r + 1 => by rw [cOut, cOut, cOut_cong h r, cIn_cong h n (Nat.le_refl _)]
theorem rch_cong {W W2 : Nat → Nat} {n x : Nat} (h : ∀ k u, k < n → u < n → W (k * 6 + u) = W2 (k * 6 + u)) : rch W n x = rch W2 n x := cOut_cong h _
theorem aug_congW {W W2 : Nat → Nat} {n S w : Nat} {g g2 : Nat → Int} (hw : w < n) (h : ∀ k u, k < n → u < n → W (k * 6 + u) = W2 (k * 6 + u)) (hg : ∀ k, k < n → g k = g2 k) : aug W n g (unkL S w n) = aug W2 n g2 (unkL S w n) := by
  funext i j
  unfold aug
  rw [hg _ (unkL_lt hw i), degN_cong (fun u hu => h _ u (unkL_lt hw i) hu), h _ _ (unkL_lt hw i) (unkL_lt hw j)]
theorem mu_congW {W W2 : Nat → Nat} {n i j : Nat} {g g2 : Nat → Int} (hi : i < n) (h : ∀ k u, k < n → u < n → W (k * 6 + u) = W2 (k * 6 + u)) (hg : ∀ k, k < n → g k = g2 k) : muM W n i j g = muM W2 n i j g2 ∧ muK W n i j = muK W2 n i j ∧ muA W n i j g = muA W2 n i j g2 ∧ muB W n i j g = muB W2 n i j g2 := by
  have e1 : muS W n i j = muS W2 n i j := by unfold muS; rw [rch_cong h]
  have e2 : muK W n i j = muK W2 n i j := by unfold muK; rw [e1]
  have e3 : muM W n i j g = muM W2 n i j g2 := by unfold muM; rw [e1]; exact aug_congW hi h hg
  refine ⟨e3, e2, ?_, ?_⟩
  · unfold muA
    rw [e2, e3]
  · unfold muB
    rw [e2, e3]
/-- the graph of the blocks and its gains, as they follow from the graph -/
def lpF (G : GT) : Nat → Nat := fun k => lpW G.W G.B G.n G.b G.n (k / 6) (k % 6)
def lgF (G : GT) : Nat → Int := fun i => (lgS G.W G.B G.n G.n i : Nat)
def lpG (G : GT) : GT := ((G.b, 0, 0, G.b), (fun _ => 0, fun _ => 0, lpF G, fun _ => 0, fun _ => 0), 0)
theorem lpF_at (G : GT) {i j : Nat} (hj : j < 6) : lpF G (i * 6 + j) = lpW G.W G.B G.n G.b G.n i j := by
  unfold lpF
  rw [show (i * 6 + j) / 6 = i by omega, show (i * 6 + j) % 6 = j by omega]
theorem lpS_le {W B : Nat → Nat} {n k i j : Nat} (hn : n ≤ 6) (hk : k ≤ 6) (hW : ∀ k, k < 36 → W k ≤ 9) : lpS W B n k i j ≤ 324 := by
  have h1 : lpS W B n k i j ≤ k * 54 := sN_le k (fun u hu => by
    split
    · exact wto_le hn (by omega) hW
    · omega)
  have h2 : k * 54 ≤ 6 * 54 := Nat.mul_le_mul_right _ hk
  omega
theorem lgS_le {W B : Nat → Nat} {n k i : Nat} (hn : n ≤ 6) (hk : k ≤ 6) (hW : ∀ k, k < 36 → W k ≤ 9) : lgS W B n k i ≤ 324 := by
  have h1 : lgS W B n k i ≤ k * 54 := sN_le k (fun u hu => by
    split
    · exact degN_le hn (by omega) hW
    · omega)
  have h2 : k * 54 ≤ 6 * 54 := Nat.mul_le_mul_right _ hk
  omega
theorem lpW_le {W B : Nat → Nat} {n nb k i j : Nat} (hn : n ≤ 6) (hk : k ≤ 6) (hW : ∀ k, k < 36 → W k ≤ 9) : lpW W B n nb k i j ≤ 324 := by
  unfold lpW
  split
  · split
    · exact lpS_le hn hk hW
    · omega
  · split
    · split
      · exact lpS_le hn hk hW
      · omega
    · omega
section
variable {v : Ev} {h : Hp} {top x : Nat} {Z : CS}
def edV (G : GT) (cn : Nat) (cc : Nat → Int) (i w : Nat) : Nat := if w = 0 then G.L i else if w = 1 then G.H i else if w = 2 then G.W (G.L i * 6 + G.H i) else if w = 3 then cst G.W cc cn (G.L i) (G.H i) else cst G.W cc cn (G.H i) (G.L i)
theorem bcN_c {G L : GT} {g : Nat → Int} (hLn : L.n = G.b) (hb : G.b ≤ 6) (hW : ∀ i j, i < 6 → j < 6 → L.W (i * 6 + j) = lpW G.W G.B G.n G.b G.n i j) (hg : ∀ i, i < 6 → g i = (lgS G.W G.B G.n G.n i : Nat)) {i j : Nat} (hi : i < 6) (hj : j < 6) : bcN L g i j = bcN (lpG G) (lgF G) i j ∧ bcD g i = bcD (lgF G) i := by
  have e1 : g i = lgF G i := hg i hi
  have e2 : L.W (i * 6 + j) = (lpG G).W (i * 6 + j) := by
    rw [hW i j hi hj]
    exact (lpF_at G hj).symm
  have e3 : degN L.W i L.n = degN (lpG G).W i (lpG G).n := by
    rw [hLn]
    exact degN_cong (fun u hu => by
      rw [hW i u hi (by omega)]
      exact (lpF_at G (by omega)).symm)
  constructor
  · unfold bcN
    rw [e1, e2, e3]
  · unfold bcD
    rw [e1]
theorem lpC {G L : GT} (hLn : L.n = G.b) (hb : G.b ≤ 6) (hW : ∀ i j, i < 6 → j < 6 → L.W (i * 6 + j) = lpW G.W G.B G.n G.b G.n i j) : ∀ k u, k < L.n → u < L.n → L.W (k * 6 + u) = lpF G (k * 6 + u) := fun k u hk hu => by
  rw [hW k u (by omega) (by omega), lpF_at G (by omega)]
def ck1 (G : GT) : Nat → Int
  | 0 => 31 * (G.n : Nat) + (G.a : Nat)
  | e + 1 => 31 * (31 * (31 * ck1 G e + (G.L e : Nat)) + (G.H e : Nat)) + (G.W (G.L e * 6 + G.H e) : Nat)
def ck2 (G : GT) : Nat → Int
  | 0 => ck1 G G.e
  | u + 1 => 31 * ck2 G u + (G.B u : Nat)
end

