/-! ===== Partition: dividing and lumping ===== -/
theorem gH_put {v : Ev} {h : Hp} {g a : Nat} {e : va_E} {G : GT} (ha : a < g ∨ g + 6 ≤ a) : hp (gH v h g G) a e = gH v (hp h a e) g G :=
  gH_ext ((gH_is v h g G).put ha) (fun q hq => by
    by_cases e1 : q = a
    · rw [e1, hp_eq, hp_eq]
    · rw [hp_ne _ _ e1, hp_ne _ _ e1, gH_out _ _ _ _ hq])
def ptE (q : Nat) : va_E := ob 5 [.ref (q + 1), .ref (q + 7), .ref (q + 8)]
def pH (v : Ev) (h : Hp) (q : Nat) (L : GT) (gn : Nat → Int) (fn : Nat → Nat) : Hp := hp (hp (hp (gH v h (q + 1) L) q (ptE q)) (q + 7) (aJ v 6 (lF gn))) (q + 8) (aI v 6 (iF fn))
section
variable {v : Ev} {h : Hp} {q : Nat} {L : GT} {gn : Nat → Int} {fn : Nat → Nat}
theorem pH_0 : pH v h q L gn fn q = some (ptE q) := by unfold pH; rw [hp_ne _ _ (by omega), hp_ne _ _ (by omega), hp_eq]
theorem pH_7 : pH v h q L gn fn (q + 7) = some (aJ v 6 (lF gn)) := by unfold pH; rw [hp_ne _ _ (by omega), hp_eq]
theorem pH_8 : pH v h q L gn fn (q + 8) = some (aI v 6 (iF fn)) := hp_eq _ _ _
theorem pH_L : isG v (pH v h q L gn fn) (q + 1) L := (((gH_is v h (q + 1) L).put (by omega)).put (by omega)).put (by omega)
theorem pH_out {a : Nat} (ha : a < q ∨ q + 9 ≤ a) : pH v h q L gn fn a = h a := by unfold pH; rw [hp_ne _ _ (by omega), hp_ne _ _ (by omega), hp_ne _ _ (by omega), gH_out _ _ _ _ (by omega)]
theorem pH_G {g : Nat} {G : GT} (hg : isG v h g G) (hd : g + 6 ≤ q ∨ q + 9 ≤ g) : isG v (pH v h q L gn fn) g G := hg.frame (fun a _ _ => pH_out (by omega))
theorem pH_ext {h' : Hp} (h0 : h' q = some (ptE q)) (h1 : isG v h' (q + 1) L) (h2 : h' (q + 7) = some (aJ v 6 (lF gn))) (h3 : h' (q + 8) = some (aI v 6 (iF fn))) (ho : ∀ a, (a < q ∨ q + 9 ≤ a) → h' a = h a) : h' = pH v h q L gn fn := by
  have e := gH_ext (h := pH v h q L gn fn) h1 (fun a ha => by
    by_cases hq : q ≤ a ∧ a < q + 9
    · rcases (show a = q ∨ a = q + 7 ∨ a = q + 8 by omega) with e | e | e
      · rw [e, h0, pH_0]
      · rw [e, h2, pH_7]
      · rw [e, h3, pH_8]
    · rw [ho a (by omega), pH_out (by omega)])
  rw [e]
  exact gH_self pH_L
theorem pH_p7 (g2 : Nat → Int) : hp (pH v h q L gn fn) (q + 7) (aJ v 6 (lF g2)) = pH v h q L g2 fn :=
  pH_ext ((hp_ne _ _ (by omega)).trans pH_0) (pH_L.put (by omega)) (hp_eq _ _ _) ((hp_ne _ _ (by omega)).trans pH_8) (fun a ha => (hp_ne _ _ (by omega)).trans (pH_out ha))
theorem pH_p8 (f2 : Nat → Nat) : hp (pH v h q L gn fn) (q + 8) (aI v 6 (iF f2)) = pH v h q L gn f2 :=
  pH_ext ((hp_ne _ _ (by omega)).trans pH_0) (pH_L.put (by omega)) ((hp_ne _ _ (by omega)).trans pH_7) (hp_eq _ _ _) (fun a ha => (hp_ne _ _ (by omega)).trans (pH_out ha))
theorem pH_pL (L2 : GT) : gH v (pH v h q L gn fn) (q + 1) L2 = pH v h q L2 gn fn :=
  pH_ext ((gH_out _ _ _ _ (by omega)).trans pH_0) (gH_is _ _ _ _) ((gH_out _ _ _ _ (by omega)).trans pH_7) ((gH_out _ _ _ _ (by omega)).trans pH_8) (fun a ha => (gH_out _ _ _ _ (by omega)).trans (pH_out ha))
theorem pH_self : gH v (pH v h q L gn fn) (q + 1) L = pH v h q L gn fn := pH_pL L
theorem pH_put {a : Nat} {e : va_E} (ha : a < q ∨ q + 9 ≤ a) : hp (pH v h q L gn fn) a e = pH v (hp h a e) q L gn fn :=
  pH_ext ((hp_ne _ _ (by omega)).trans pH_0) (pH_L.put (by omega)) ((hp_ne _ _ (by omega)).trans pH_7) ((hp_ne _ _ (by omega)).trans pH_8) (fun b hb => by
    by_cases e : b = a
    · rw [e, hp_eq, hp_eq]
    · rw [hp_ne _ _ e, hp_ne _ _ e, pH_out hb])
theorem pH_pH {L2 : GT} {g2 : Nat → Int} {f2 : Nat → Nat} : pH v (pH v h q L gn fn) q L2 g2 f2 = pH v h q L2 g2 f2 :=
  pH_ext pH_0 pH_L pH_7 pH_8 (fun a ha => (pH_out ha).trans (pH_out ha))
end
/-- groups: each vertex goes with the first that p pairs it with -/
def grpL (p : Nat → Nat → Bool) (F : Nat → Nat) : Nat → (Nat → Nat) × Nat
  | 0 => (F, 0)
  | u + 1 => if fstN (fun k => p k u) u < u then (upN (grpL p F u).1 u ((grpL p F u).1 (fstN (fun k => p k u) u)), (grpL p F u).2) else (upN (grpL p F u).1 u (grpL p F u).2, (grpL p F u).2 + 1)
theorem grpL_ind (p : Nat → Nat → Bool) (F F2 : Nat → Nat) : ∀ u, (grpL p F u).2 = (grpL p F2 u).2 ∧ ∀ k, k < u → (grpL p F u).1 k = (grpL p F2 u).1 k
  | 0 => ⟨rfl, fun k hk => by omega⟩
  | u + 1 => by
    obtain ⟨h1, h2⟩ := grpL_ind p F F2 u
    rw [grpL, grpL]
    split
    · next q =>
      refine ⟨h1, fun k hk => ?_⟩
      by_cases e : k = u
      · rw [e]
        show upN _ u _ u = upN _ u _ u
        rw [upN_eq, upN_eq, h2 _ q]
      · show upN _ u _ k = upN _ u _ k
        rw [upN_ne _ _ e, upN_ne _ _ e, h2 k (by omega)]
    · refine ⟨by show _ + 1 = _ + 1; rw [h1], fun k hk => ?_⟩
      by_cases e : k = u
      · rw [e]
        show upN _ u _ u = upN _ u _ u
        rw [upN_eq, upN_eq, h1]
      · show upN _ u _ k = upN _ u _ k
        rw [upN_ne _ _ e, upN_ne _ _ e, h2 k (by omega)]
def GT.sw (G : GT) : Nat → Nat → Bool := stw G.W G.B G.n G.b
def GT.dvd (G : GT) : GT := (G.sB (cpF (grpL G.sw (fun _ => 0) G.n).1 G.B G.n)).sc G.n G.e G.a (grpL G.sw (fun _ => 0) G.n).2
def ptB (G : GT) : Bool := decide (pqX G.W G.B G.n G.b < G.n)
theorem ptN_neg {G : GT} : (ptN G.W G.B G.n G.b < 0) ↔ ptB G = false := by
  unfold ptN ptB
  split
  · simp_all
    omega
  · simp_all
/-- at most r rounds of dividing -/
def GT.rfn : Nat → GT → GT
  | 0, G => G
  | r + 1, G => if ptB G then GT.rfn r G.dvd else G
theorem grpL_le (p : Nat → Nat → Bool) (F : Nat → Nat) : ∀ u, (grpL p F u).2 ≤ u ∧ ∀ k, k < u → (grpL p F u).1 k ≤ u
  | 0 => ⟨Nat.le_refl _, fun k hk => by omega⟩
  | u + 1 => by
    obtain ⟨h1, h2⟩ := grpL_le p F u
    rw [grpL]
    split
    · next q =>
      refine ⟨by show _ ≤ _; omega, fun k hk => ?_⟩
      show upN _ u _ k ≤ _
      by_cases e : k = u
      · rw [e, upN_eq]
        have := h2 _ q
        omega
      · rw [upN_ne _ _ e]
        have := h2 k (by omega)
        omega
    · refine ⟨by show _ + 1 ≤ _; omega, fun k hk => ?_⟩
      show upN _ u _ k ≤ _
      by_cases e : k = u
      · rw [e, upN_eq]
        omega
      · rw [upN_ne _ _ e]
        have := h2 k (by omega)
        omega
