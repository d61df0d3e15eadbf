/-! ===== Partition: dividing and lumping ===== -/
theorem gH_put {v : Ev} {h : Hp} {g a : Nat} {e : va_E} {G : GT} (ha : a < g ∨ g + 6 ≤ a) : hp (gH v h g G) a e = gH v (hp h a e) g G :=
  gH_ext ((gH_is v h g G).put ha) (fun q hq => by
    by_cases e1 : q = a
    · rw [e1, hp_eq, hp_eq]
    · rw [hp_ne _ _ e1, hp_ne _ _ e1, gH_out _ _ _ _ hq])
def ptE (q : Nat) : va_E := ob 5 [.ref (q + 1), .ref (q + 7), .ref (q + 8)]
def pH (v : Ev) (h : Hp) (q : Nat) (L : GT) (gn : Nat → Int) (fn : Nat → Nat) : Hp := hp (hp (hp (gH v h (q + 1) L) q (ptE q)) (q + 7) (aJ v 6 (lF gn))) (q + 8) (aI v 6 (iF fn))
section
variable {v : Ev} {h : Hp} {q : Nat} {L : GT} {gn : Nat → Int} {fn : Nat → Nat}
theorem pH_0 : pH v h q L gn fn q = some (ptE q) := by unfold pH; rw [hp_ne _ _ (by omega), hp_ne _ _ (by omega), hp_eq]
theorem pH_7 : pH v h q L gn fn (q + 7) = some (aJ v 6 (lF gn)) := by unfold pH; rw [hp_ne _ _ (by omega), hp_eq]
theorem pH_8 : pH v h q L gn fn (q + 8) = some (aI v 6 (iF fn)) := hp_eq _ _ _
theorem pH_L : isG v (pH v h q L gn fn) (q + 1) L := (((gH_is v h (q + 1) L).put (by omega)).put (by omega)).put (by omega)
theorem pH_out {a : Nat} (ha : a < q ∨ q + 9 ≤ a) : pH v h q L gn fn a = h a := by unfold pH; rw [hp_ne _ _ (by omega), hp_ne _ _ (by omega), hp_ne _ _ (by omega), gH_out _ _ _ _ (by omega)]
theorem pH_G {g : Nat} {G : GT} (hg : isG v h g G) (hd : g + 6 ≤ q ∨ q + 9 ≤ g) : isG v (pH v h q L gn fn) g G := hg.frame (fun a _ _ => pH_out (by omega))
theorem pH_ext {h' : Hp} (h0 : h' q = some (ptE q)) (h1 : isG v h' (q + 1) L) (h2 : h' (q + 7) = some (aJ v 6 (lF gn))) (h3 : h' (q + 8) = some (aI v 6 (iF fn))) (ho : ∀ a, (a < q ∨ q + 9 ≤ a) → h' a = h a) : h' = pH v h q L gn fn := by
  have e := gH_ext (h := pH v h q L gn fn) h1 (fun a ha => by
    by_cases hq : q ≤ a ∧ a < q + 9
    · rcases (show a = q ∨ a = q + 7 ∨ a = q + 8 by omega) with e | e | e
      · rw [e, h0, pH_0]
      · rw [e, h2, pH_7]
      · rw [e, h3, pH_8]
    · rw [ho a (by omega), pH_out (by omega)])
  rw [e]
  exact gH_self pH_L
theorem pH_p7 (g2 : Nat → Int) : hp (pH v h q L gn fn) (q + 7) (aJ v 6 (lF g2)) = pH v h q L g2 fn :=
  pH_ext ((hp_ne _ _ (by omega)).trans pH_0) (pH_L.put (by omega)) (hp_eq _ _ _) ((hp_ne _ _ (by omega)).trans pH_8) (fun a ha => (hp_ne _ _ (by omega)).trans (pH_out ha))
theorem pH_p8 (f2 : Nat → Nat) : hp (pH v h q L gn fn) (q + 8) (aI v 6 (iF f2)) = pH v h q L gn f2 :=
  pH_ext ((hp_ne _ _ (by omega)).trans pH_0) (pH_L.put (by omega)) ((hp_ne _ _ (by omega)).trans pH_7) (hp_eq _ _ _) (fun a ha => (hp_ne _ _ (by omega)).trans (pH_out ha))
theorem pH_pL (L2 : GT) : gH v (pH v h q L gn fn) (q + 1) L2 = pH v h q L2 gn fn :=
  pH_ext ((gH_out _ _ _ _ (by omega)).trans pH_0) (gH_is _ _ _ _) ((gH_out _ _ _ _ (by omega)).trans pH_7) ((gH_out _ _ _ _ (by omega)).trans pH_8) (fun a ha => (gH_out _ _ _ _ (by omega)).trans (pH_out ha))
theorem pH_self : gH v (pH v h q L gn fn) (q + 1) L = pH v h q L gn fn := pH_pL L
theorem pH_put {a : Nat} {e : va_E} (ha : a < q ∨ q + 9 ≤ a) : hp (pH v h q L gn fn) a e = pH v (hp h a e) q L gn fn :=
  pH_ext ((hp_ne _ _ (by omega)).trans pH_0) (pH_L.put (by omega)) ((hp_ne _ _ (by omega)).trans pH_7) ((hp_ne _ _ (by omega)).trans pH_8) (fun b hb => by
    by_cases e : b = a
    · rw [e, hp_eq, hp_eq]
    · rw [hp_ne _ _ e, hp_ne _ _ e, pH_out hb])
theorem pH_pH {L2 : GT} {g2 : Nat → Int} {f2 : Nat → Nat} : pH v (pH v h q L gn fn) q L2 g2 f2 = pH v h q L2 g2 f2 :=
  pH_ext pH_0 pH_L pH_7 pH_8 (fun a ha => (pH_out ha).trans (pH_out ha))
end
/-- groups: each vertex goes with the first that p pairs it with -/
def grpL (p : Nat → Nat → Bool) (F : Nat → Nat) : Nat → (Nat → Nat) × Nat
  | 0 => (F, 0)
  | u + 1 => if fstN (fun k => p k u) u < u then (upN (grpL p F u).1 u ((grpL p F u).1 (fstN (fun k => p k u) u)), (grpL p F u).2) else (upN (grpL p F u).1 u (grpL p F u).2, (grpL p F u).2 + 1)
theorem grpL_ind (p : Nat → Nat → Bool) (F F2 : Nat → Nat) : ∀ u, (grpL p F u).2 = (grpL p F2 u).2 ∧ ∀ k, k < u → (grpL p F u).1 k = (grpL p F2 u).1 k
  | 0 => ⟨rfl, fun k hk => by omega⟩
  | u + 1 => by
    obtain ⟨h1, h2⟩ := grpL_ind p F F2 u
    rw [grpL, grpL]
    split
    · next q =>
      refine ⟨h1, fun k hk => ?_⟩
      by_cases e : k = u
      · rw [e]
        show upN _ u _ u = upN _ u _ u
        rw [upN_eq, upN_eq, h2 _ q]
      · show upN _ u _ k = upN _ u _ k
        rw [upN_ne _ _ e, upN_ne _ _ e, h2 k (by omega)]
    · refine ⟨by show _ + 1 = _ + 1; rw [h1], fun k hk => ?_⟩
      by_cases e : k = u
      · rw [e]
        show upN _ u _ u = upN _ u _ u
        rw [upN_eq, upN_eq, h1]
      · show upN _ u _ k = upN _ u _ k
        rw [upN_ne _ _ e, upN_ne _ _ e, h2 k (by omega)]
def GT.sw (G : GT) : Nat → Nat → Bool := stw G.W G.B G.n G.b
def GT.dvd (G : GT) : GT := (G.sB (cpF (grpL G.sw (fun _ => 0) G.n).1 G.B G.n)).sc G.n G.e G.a (grpL G.sw (fun _ => 0) G.n).2
theorem c_divide {v : Ev} {h : Hp} {top g q : Nat} {G L : GT} {gn : Nat → Int} {fn : Nat → Nat} (hd : g + 6 ≤ q ∨ q + 9 ≤ g) (hn : G.n ≤ 6) (hB : ∀ k, k < 6 → G.B k < 2147483648) (hb : G.b ≤ 6) (hW : ∀ k, k < 36 → G.W k ≤ 9) :
    Cal v mX5_divideAll 5 0 0 [.ref q, .ref g] (gH v (pH v h q L gn fn) g G) top (fun r h' top' => r = none ∧ top = top' ∧ ∃ f', h' = gH v (pH v h q L gn f') g G.dvd) noX := by
  have hg : ∀ f, isG v (gH v (pH v h q L gn f) g G) g G := fun f => gH_is _ _ _ _
  have h0 : ∀ f, gH v (pH v h q L gn f) g G q = some (ptE q) := fun f => (gH_out _ _ _ _ (by omega)).trans pH_0
  have h8 : ∀ f, gH v (pH v h q L gn f) g G (q + 8) = some (aI v 6 (iF f)) := fun f => (gH_out _ _ _ _ (by omega)).trans pH_8
  have w8 : ∀ f f2, hp (gH v (pH v h q L gn f) g G) (q + 8) (aI v 6 (iF f2)) = gH v (pH v h q L gn f2) g G := fun f f2 => by rw [gH_put (by omega), pH_p8]
  have hst : G.sw = stw G.W G.B G.n G.b := rfl
  refine Cal.ofJ (by decide +kernel) rfl (Nat.le_of_ble_eq_true rfl) fun hz0 => ?_
  refine r_ls [some (.ref q), some (.ref g), none, none, none] rfl ?_
  refine r_iconst (pc := 0) (w := nI 0) (tX5_divideAll.at 0 rfl) (by decide) ?_
  refine r_istore_n (pc := 1) (i := 2) (tX5_divideAll.at 1 rfl) rfl (by decide) ?_
  refine r_iconst (pc := 2) (w := nI 0) (tX5_divideAll.at 2 rfl) (by decide) ?_
  refine r_istore_n (pc := 3) (i := 3) (tX5_divideAll.at 3 rfl) rfl (by decide) ?_
  generalize hPo : (fun (r : Option Value) (h' : Hp) (top' : Nat) => r = none ∧ top = top' ∧ ∃ f', h' = gH v (pH v h q L gn f') g G.dvd) = Po
  have key1 : ∀ m u o4, u + m = G.n → J v mX5_divideAll (rmOf 5 0 0) (KM v Po noX 0 0) top 0 0 (gH v (pH v h q L gn (grpL G.sw fn u).1) g G) top 4 [some (.ref q), some (.ref g), some (.int (nI (grpL G.sw fn u).2)), some (.int (nI u)), o4] [] := by
    intro m
    induction m with
    | zero =>
      intro u o4 hu
      have hu : u = G.n := by omega
      subst hu
      obtain ⟨i1, i2⟩ := grpL_ind G.sw fn (fun _ => 0) G.n
      refine r_iload_n (pc := 4) (i := 3) (tX5_divideAll.at 4 rfl) rfl rfl ?_
      refine r_aload_n (pc := 5) (i := 1) (tX5_divideAll.at 5 rfl) rfl rfl ?_
      refine r_get (pc := 6) (tX5_divideAll.at 6 rfl) gf_X5_26 ((hg _).1) rfl ?_
      refine r_icmp_geN (pc := 9) 75 (tX5_divideAll.at 7 rfl) (by decide) (by omega) (by omega) (fun _ => ?_) (fun c => by omega)
      refine r_aload_n (pc := 75) (i := 0) (tX5_divideAll.at 40 rfl) rfl rfl ?_
      refine r_get (pc := 76) (tX5_divideAll.at 41 rfl) gf_X5_22 (h0 _) rfl ?_
      refine r_iconst (pc := 79) (w := nI 0) (tX5_divideAll.at 42 rfl) (by decide) ?_
      refine r_aload_n (pc := 80) (i := 1) (tX5_divideAll.at 43 rfl) rfl rfl ?_
      refine r_get (pc := 81) (tX5_divideAll.at 44 rfl) gf_X5_30 ((hg _).1) rfl ?_
      refine r_iconst (pc := 84) (w := nI 0) (tX5_divideAll.at 45 rfl) (by decide) ?_
      refine r_aload_n (pc := 85) (i := 1) (tX5_divideAll.at 46 rfl) rfl rfl ?_
      refine r_get (pc := 86) (tX5_divideAll.at 47 rfl) gf_X5_26 ((hg _).1) rfl ?_
      refine r_acopyI (pc := 89) G.n (tX5_divideAll.at 48 rfl) ml_X5_88 (h8 _) (hg _).2.2.2.2.1 (by omega) rfl rfl rfl hn hn (by omega) (Nat.le_refl _) (Nat.le_of_ble_eq_true rfl) (Nat.le_of_ble_eq_true rfl) ?_
      rw [iF_cpF, gH_pB]
      have hg2 := gH_is v (pH v h q L gn (grpL G.sw fn G.n).1) g (G.sB (cpF (grpL G.sw fn G.n).1 G.B G.n))
      refine r_aload_n (pc := 92) (i := 1) (tX5_divideAll.at 49 rfl) rfl rfl ?_
      refine r_iload_n (pc := 93) (i := 2) (tX5_divideAll.at 50 rfl) rfl rfl ?_
      refine r_put (pc := 94) (tX5_divideAll.at 51 rfl) pf_X5_45 (hg2.1) (Nat.le_of_ble_eq_true rfl) (rfl) (rfl) ?_
      refine r_eq (h2 := gH v (pH v h q L gn (grpL G.sw fn G.n).1) g G.dvd) ?_ rfl ?_
      · refine (gH_p0 (G.sB (cpF (grpL G.sw fn G.n).1 G.B G.n)) G.n G.e G.a (grpL G.sw fn G.n).2).trans ?_
        rw [show cpF (grpL G.sw fn G.n).1 G.B G.n = cpF (grpL G.sw (fun _ => 0) G.n).1 G.B G.n from funext fun k => by
          unfold cpF
          split
          · next hk => exact i2 k hk
          · rfl, i1]
        rfl
      · refine r_vret (pc := 97) (tX5_divideAll.at 52 rfl) rfl (Nat.le_of_ble_eq_true rfl) (Nat.le_of_ble_eq_true rfl) ?_
        subst hPo
        exact ⟨rfl, rfl, _, rfl⟩
    | succ m ih =>
      intro u o4 hu
      refine r_iload_n (pc := 4) (i := 3) (tX5_divideAll.at 4 rfl) rfl rfl ?_
      refine r_aload_n (pc := 5) (i := 1) (tX5_divideAll.at 5 rfl) rfl rfl ?_
      refine r_get (pc := 6) (tX5_divideAll.at 6 rfl) gf_X5_26 ((hg _).1) rfl ?_
      refine r_icmp_geN (pc := 9) 75 (tX5_divideAll.at 7 rfl) (by decide) (by omega) (by omega) (fun c => by omega) (fun _ => ?_)
      refine r_iconst (pc := 12) (w := nI 0) (tX5_divideAll.at 8 rfl) (by decide) ?_
      refine r_istore (pc := 13) (i := 4) (tX5_divideAll.at 9 rfl) (by decide) ?_
      have hend : J v mX5_divideAll (rmOf 5 0 0) (KM v Po noX 0 0) top 0 0 (gH v (pH v h q L gn (grpL G.sw fn u).1) g G) top 37 [some (.ref q), some (.ref g), some (.int (nI (grpL G.sw fn u).2)), some (.int (nI u)), some (.int (nI (fstN (fun k => G.sw k u) u)))] [] := by
        have hf := (fstN_spec (fun k => G.sw k u) u).1
        have nx := ih (u + 1)
        rw [grpL] at nx
        refine r_iload (pc := 37) (i := 4) (tX5_divideAll.at 20 rfl) rfl ?_
        refine r_iload_n (pc := 39) (i := 3) (tX5_divideAll.at 21 rfl) rfl rfl ?_
        refine r_icmp_geN (pc := 40) 59 (tX5_divideAll.at 22 rfl) (by decide) (by omega) (by omega) (fun c => ?_) (fun c => ?_)
        · rw [if_neg (by omega)] at nx
          refine r_aload_n (pc := 59) (i := 0) (tX5_divideAll.at 32 rfl) rfl rfl ?_
          refine r_get (pc := 60) (tX5_divideAll.at 33 rfl) gf_X5_22 (h0 _) rfl ?_
          refine r_iload_n (pc := 63) (i := 3) (tX5_divideAll.at 34 rfl) rfl rfl ?_
          refine r_iload_n (pc := 64) (i := 2) (tX5_divideAll.at 35 rfl) rfl rfl ?_
          refine r_iast (pc := 65) (tX5_divideAll.at 36 rfl) (h8 _) (u) (rfl) (by omega) (Nat.le_of_ble_eq_true rfl) ?_
          rw [upd_iF, w8]
          first | refine r_iincN (pc := 66) (tX5_divideAll.at 37 rfl) rfl (by decide) ?_ | refine r_iinc (pc := 66) (tX5_divideAll.at 37 rfl) rfl rfl (by decide) ?_
          first | refine r_iincN (pc := 69) (tX5_divideAll.at 38 rfl) rfl (by decide) ?_ | refine r_iinc (pc := 69) (tX5_divideAll.at 38 rfl) rfl rfl (by decide) ?_
          refine r_goto (pc := 72) 4 (tX5_divideAll.at 39 rfl) (by decide) ?_
          exact nx _ (by omega)
        · rw [if_pos c] at nx
          refine r_aload_n (pc := 43) (i := 0) (tX5_divideAll.at 23 rfl) rfl rfl ?_
          refine r_get (pc := 44) (tX5_divideAll.at 24 rfl) gf_X5_22 (h0 _) rfl ?_
          refine r_iload_n (pc := 47) (i := 3) (tX5_divideAll.at 25 rfl) rfl rfl ?_
          refine r_aload_n (pc := 48) (i := 0) (tX5_divideAll.at 26 rfl) rfl rfl ?_
          refine r_get (pc := 49) (tX5_divideAll.at 27 rfl) gf_X5_22 (h0 _) rfl ?_
          refine r_iload (pc := 52) (i := 4) (tX5_divideAll.at 28 rfl) rfl ?_
          refine r_iald (pc := 54) (tX5_divideAll.at 29 rfl) (h8 _) (fstN (fun k => G.sw k u) u) (rfl) (by omega) (Nat.le_of_ble_eq_true rfl) ?_
          rw [show ∀ f : Nat → Nat, iF f (fstN (fun k => G.sw k u) u) = nI (f (fstN (fun k => G.sw k u) u)) from fun _ => rfl]
          refine r_iast (pc := 55) (tX5_divideAll.at 30 rfl) (h8 _) (u) (rfl) (by omega) (Nat.le_of_ble_eq_true rfl) ?_
          rw [upd_iF, w8]
          refine r_goto (pc := 56) 69 (tX5_divideAll.at 31 rfl) (by decide) ?_
          first | refine r_iincN (pc := 69) (tX5_divideAll.at 38 rfl) rfl (by decide) ?_ | refine r_iinc (pc := 69) (tX5_divideAll.at 38 rfl) rfl rfl (by decide) ?_
          refine r_goto (pc := 72) 4 (tX5_divideAll.at 39 rfl) (by decide) ?_
          exact nx _ (by omega)
      have inner : ∀ m k, k + m = u → (∀ j, j < k → G.sw j u = false) → J v mX5_divideAll (rmOf 5 0 0) (KM v Po noX 0 0) top 0 0 (gH v (pH v h q L gn (grpL G.sw fn u).1) g G) top 15 [some (.ref q), some (.ref g), some (.int (nI (grpL G.sw fn u).2)), some (.int (nI u)), some (.int (nI k))] [] := by
        intro m
        induction m with
        | zero =>
          intro k hk hj
          have hk : k = u := by omega
          subst hk
          refine r_iload (pc := 15) (i := 4) (tX5_divideAll.at 10 rfl) rfl ?_
          refine r_iload_n (pc := 17) (i := 3) (tX5_divideAll.at 11 rfl) rfl rfl ?_
          refine r_icmp_geN (pc := 18) 37 (tX5_divideAll.at 12 rfl) (by decide) (by omega) (by omega) (fun _ => ?_) (fun c => by omega)
          rw [fstN_is (Nat.le_refl _) hj (Or.inl rfl)] at hend
          exact hend
        | succ m ih3 =>
          intro k hk hj
          refine r_iload (pc := 15) (i := 4) (tX5_divideAll.at 10 rfl) rfl ?_
          refine r_iload_n (pc := 17) (i := 3) (tX5_divideAll.at 11 rfl) rfl rfl ?_
          refine r_icmp_geN (pc := 18) 37 (tX5_divideAll.at 12 rfl) (by decide) (by omega) (by omega) (fun c => by omega) (fun _ => ?_)
          refine r_aload_n (pc := 21) (i := 1) (tX5_divideAll.at 13 rfl) rfl rfl ?_
          refine r_iload (pc := 22) (i := 4) (tX5_divideAll.at 14 rfl) rfl ?_
          refine r_iload_n (pc := 24) (i := 3) (tX5_divideAll.at 15 rfl) rfl rfl ?_
          refine r_callS (M' := mX5_staysWith) (pc := 25) (tX5_divideAll.at 16 rfl) ml_X5_84 rfl mw_X5_staysWith ⟨by decide, by decide⟩ (c_stays (hg _) hn hB hb hW (x := k) (y := u) (by omega) (by omega)) rfl rfl (Nat.le_of_ble_eq_true rfl) (Nat.le_of_ble_eq_true rfl) (Nat.le_of_ble_eq_true rfl) ?_
          rintro _ _ _ ⟨rfl, rfl, rfl⟩
          have hbl : Bool.toNat (stw G.W G.B G.n G.b k u) ≤ 1 := Bool.toNat_le _
          have hsw : G.sw k u = stw G.W G.B G.n G.b k u := rfl
          refine r_if_neN (pc := 28) 37 (tX5_divideAll.at 17 rfl) (by decide) (by omega) (fun c => ?_) (fun c => ?_)
          · rw [fstN_is (show k ≤ u by omega) hj (Or.inr (by show G.sw k u = true; rw [hsw]; cases q : stw G.W G.B G.n G.b k u <;> simp_all))] at hend
            exact hend
          · first | refine r_iincN (pc := 31) (tX5_divideAll.at 18 rfl) rfl (by decide) ?_ | refine r_iinc (pc := 31) (tX5_divideAll.at 18 rfl) rfl rfl (by decide) ?_
            refine r_goto (pc := 34) 15 (tX5_divideAll.at 19 rfl) (by decide) ?_
            exact ih3 (k + 1) (by omega) (fun j hj2 => by
              by_cases h1 : j < k
              · exact hj j h1
              · rw [show j = k by omega, hsw]
                cases q : stw G.W G.B G.n G.b k u <;> simp_all)
      exact inner u 0 (by omega) (fun j hj => by omega)
  exact key1 G.n 0 _ (by omega)
def ptB (G : GT) : Bool := decide (pqX G.W G.B G.n G.b < G.n)
theorem ptN_neg {G : GT} : (ptN G.W G.B G.n G.b < 0) ↔ ptB G = false := by
  unfold ptN ptB
  split
  · simp_all
    omega
  · simp_all
/-- at most r rounds of dividing -/
def GT.rfn : Nat → GT → GT
  | 0, G => G
  | r + 1, G => if ptB G then GT.rfn r G.dvd else G
theorem grpL_le (p : Nat → Nat → Bool) (F : Nat → Nat) : ∀ u, (grpL p F u).2 ≤ u ∧ ∀ k, k < u → (grpL p F u).1 k ≤ u
  | 0 => ⟨Nat.le_refl _, fun k hk => by omega⟩
  | u + 1 => by
    obtain ⟨h1, h2⟩ := grpL_le p F u
    rw [grpL]
    split
    · next q =>
      refine ⟨by show _ ≤ _; omega, fun k hk => ?_⟩
      show upN _ u _ k ≤ _
      by_cases e : k = u
      · rw [e, upN_eq]
        have := h2 _ q
        omega
      · rw [upN_ne _ _ e]
        have := h2 k (by omega)
        omega
    · refine ⟨by show _ + 1 ≤ _; omega, fun k hk => ?_⟩
      show upN _ u _ k ≤ _
      by_cases e : k = u
      · rw [e, upN_eq]
        omega
      · rw [upN_ne _ _ e]
        have := h2 k (by omega)
        omega
theorem c_refine {v : Ev} {h : Hp} {top g q : Nat} {G L : GT} {gn : Nat → Int} {fn : Nat → Nat} (hd : g + 6 ≤ q ∨ q + 9 ≤ g) (hn : G.n ≤ 6) (hB : ∀ k, k < 6 → G.B k < 2147483648) (hb : G.b ≤ 6) (hW : ∀ k, k < 36 → G.W k ≤ 9) :
    Cal v mX5_refineBlocks 6 0 0 [.ref q, .ref g] (gH v (pH v h q L gn fn) g G) top (fun r h' top' => r = none ∧ top = top' ∧ ∃ f', h' = gH v (pH v h q L gn f') g (GT.rfn 6 G)) noX := by
  have h0 : ∀ f G, gH v (pH v h q L gn f) g G q = some (ptE q) := fun f G => (gH_out _ _ _ _ (by omega)).trans pH_0
  refine Cal.ofJ (by decide +kernel) rfl (Nat.le_of_ble_eq_true rfl) fun hz0 => ?_
  refine r_ls [some (.ref q), some (.ref g), none] rfl ?_
  refine r_iconst (pc := 0) (w := nI 0) (tX5_refineBlocks.at 0 rfl) (by decide) ?_
  refine r_istore_n (pc := 1) (i := 2) (tX5_refineBlocks.at 1 rfl) rfl (by decide) ?_
  generalize hPo : (fun (r : Option Value) (h' : Hp) (top' : Nat) => r = none ∧ top = top' ∧ ∃ f', h' = gH v (pH v h q L gn f') g (GT.rfn 6 G)) = Po
  have fin : ∀ X f, GT.rfn 6 G = X → J v mX5_refineBlocks (rmOf 6 0 0) (KM v Po noX 0 0) top 0 0 (gH v (pH v h q L gn f) g X) top 27 [some (.ref q), some (.ref g), none] [] := by
    intro X f hX
    refine r_vret (pc := 27) (tX5_refineBlocks.at 14 rfl) rfl (Nat.le_of_ble_eq_true rfl) (Nat.le_of_ble_eq_true rfl) ?_
    subst hPo
    exact ⟨rfl, rfl, f, by rw [hX]⟩
  have sub : ∀ X f w, GT.rfn 6 G = X → J v mX5_refineBlocks (rmOf 6 0 0) (KM v Po noX 0 0) top 0 0 (gH v (pH v h q L gn f) g X) top 27 [some (.ref q), some (.ref g), w] [] := fun X f w hX => r_sub _ (fun i w hw => by
    match i, hw with
    | 0, hw => exact hw
    | 1, hw => exact hw
    | 2, hw => cases hw) (fin X f hX)
  have key : ∀ r i X f, i + r = 6 → X.n ≤ 6 → (∀ k, k < 6 → X.B k < 2147483648) → X.b ≤ 6 → (∀ k, k < 36 → X.W k ≤ 9) → GT.rfn 6 G = GT.rfn r X → J v mX5_refineBlocks (rmOf 6 0 0) (KM v Po noX 0 0) top 0 0 (gH v (pH v h q L gn f) g X) top 2 [some (.ref q), some (.ref g), some (.int (nI i))] [] := by
    intro r
    induction r with
    | zero =>
      intro i X f hi h1 h2 h3 h4 hX
      refine r_iload_n (pc := 2) (i := 2) (tX5_refineBlocks.at 2 rfl) rfl rfl ?_
      refine r_bipush (pc := 3) (w := nI 6) (tX5_refineBlocks.at 3 rfl) (by decide) ?_
      refine r_icmp_geN (pc := 5) 27 (tX5_refineBlocks.at 4 rfl) (by decide) (by omega) (by omega) (fun _ => ?_) (fun c => by omega)
      exact sub X f _ hX
    | succ r ih =>
      intro i X f hi h1 h2 h3 h4 hX
      have hg := gH_is v (pH v h q L gn f) g X
      refine r_iload_n (pc := 2) (i := 2) (tX5_refineBlocks.at 2 rfl) rfl rfl ?_
      refine r_bipush (pc := 3) (w := nI 6) (tX5_refineBlocks.at 3 rfl) (by decide) ?_
      refine r_icmp_geN (pc := 5) 27 (tX5_refineBlocks.at 4 rfl) (by decide) (by omega) (by omega) (fun c => by omega) (fun _ => ?_)
      refine r_aload_n (pc := 8) (i := 0) (tX5_refineBlocks.at 5 rfl) rfl rfl ?_
      refine r_aload_n (pc := 9) (i := 1) (tX5_refineBlocks.at 6 rfl) rfl rfl ?_
      refine r_callV (M' := mX5_firstParted) (pc := 10) (tX5_refineBlocks.at 7 rfl) ml_X5_37 rfl mw_X5_firstParted ⟨by decide, by decide⟩ (h0 _ _) rfl rfl (c_firstP hg h1 h2 h3 h4) rfl rfl (Nat.le_of_ble_eq_true rfl) (Nat.le_of_ble_eq_true rfl) (Nat.le_of_ble_eq_true rfl) ?_
      rintro _ _ _ ⟨rfl, rfl, rfl⟩
      have hpt := ptN_neg (G := X)
      by_cases c : ptB X = true
      · have hr : inI (ptN X.W X.B X.n X.b) ∧ 0 ≤ ptN X.W X.B X.n X.b := by
          unfold ptB at c
          have c2 : pqX X.W X.B X.n X.b < X.n := by simpa using c
          have c3 : pqY X.W X.B X.n X.b (pqX X.W X.B X.n X.b) ≤ X.n := (fstN_spec _ _).1
          have c4 : fdN X.W X.B X.n X.b (pqX X.W X.B X.n X.b) (pqY X.W X.B X.n X.b (pqX X.W X.B X.n X.b)) ≤ X.b := (fstN_spec _ _).1
          unfold ptN inI
          rw [if_pos c2]
          omega
        refine r_if_lt (pc := 13) 27 (tX5_refineBlocks.at 8 rfl) (by decide) (fun z => absurd z (by rw [show (0 : Int32) = zI 0 from rfl, zI_lt hr.1 ⟨by omega, by omega⟩]; omega)) (fun _ => ?_)
        refine r_aload_n (pc := 16) (i := 0) (tX5_refineBlocks.at 9 rfl) rfl rfl ?_
        refine r_aload_n (pc := 17) (i := 1) (tX5_refineBlocks.at 10 rfl) rfl rfl ?_
        refine r_callV (M' := mX5_divideAll) (pc := 18) (tX5_refineBlocks.at 11 rfl) ml_X5_41 rfl mw_X5_divideAll ⟨by decide, by decide⟩ (h0 _ _) rfl rfl (c_divide hd h1 h2 h3 h4) rfl rfl (Nat.le_of_ble_eq_true rfl) (Nat.le_of_ble_eq_true rfl) (Nat.le_of_ble_eq_true rfl) ?_
        rintro _ _ _ ⟨rfl, rfl, f2, rfl⟩
        first | refine r_iincN (pc := 21) (tX5_refineBlocks.at 12 rfl) rfl (by decide) ?_ | refine r_iinc (pc := 21) (tX5_refineBlocks.at 12 rfl) rfl rfl (by decide) ?_
        refine r_goto (pc := 24) 2 (tX5_refineBlocks.at 13 rfl) (by decide) ?_
        have gl := grpL_le X.sw (fun _ => 0) X.n
        refine ih (i + 1) X.dvd f2 (by omega) h1 (fun k hk => ?_) (Nat.le_trans gl.1 h1) h4 (by rw [hX, GT.rfn, if_pos c])
        show cpF _ _ _ k < _
        unfold cpF
        split
        · next hk2 =>
          have := gl.2 k hk2
          omega
        · exact h2 k hk
      · have c' : ptB X = false := by simpa using c
        have hv : ptN X.W X.B X.n X.b = -1 := by
          unfold ptN
          rw [if_neg (by unfold ptB at c; simpa using c)]
        rw [hv]
        refine r_if_lt (pc := 13) 27 (tX5_refineBlocks.at 8 rfl) (by decide) (fun _ => ?_) (fun z => absurd (by decide) z)
        exact sub X f _ (by rw [hX, GT.rfn, if_neg c])
  exact r_sub _ (fun i w hw => hw) (key 6 0 G fn (by omega) hn hB hb hW rfl)

