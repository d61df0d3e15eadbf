/-! ===== the law from its entry ===== -/
theorem wfG_0 (v : Ev) : wfG (G0 v) := by
  refine ⟨⟨Nat.zero_le _, Nat.zero_le _, by show 0 < 64; omega, fun k _ => Nat.zero_le _, fun k _ => Nat.zero_le _⟩, fun i hi => absurd hi (Nat.not_lt_zero _), fun i j hi => absurd hi (Nat.not_lt_zero _), fun _ _ _ _ => rfl, fun x y _ _ h => absurd rfl h, fun _ _ => rfl⟩
theorem rel_0 {v : Ev} {h : Hp} {top x : Nat} (hA : oA v 0 < x) : Rel v h top x (Z0 v) M0 := by
  refine ⟨⟨rfl, rfl, rfl, by show 0 ≤ 600; omega, fun k => by show 0 < 256; omega⟩, ⟨by show 0 < 9; omega, by show 0 < 8; omega, rfl, by show 0 ≤ 8; omega⟩, ?_, fun i hi => absurd hi (Nat.not_lt_zero _)⟩
  refine ⟨⟨⟨rfl, fun k hk => absurd hk (Nat.not_lt_zero _)⟩, by show 0 ≠ 1; omega⟩, 1, fun _ => 1, ⟨⟨by show 0 < 9; omega, rfl, rfl, rfl, fun i hi => absurd hi (Nat.not_lt_zero _), fun k hk => absurd hk (Nat.not_lt_zero _)⟩, wfG_0 v, cdA_0 rfl rfl⟩, ⟨Or.inl ⟨rfl, rfl, rfl⟩, Or.inl hA, by omega, fun k _ => ⟨by show (-7 : Int) ≤ 1; omega, by show (1 : Int) ≤ 10000; omega⟩⟩, Or.inl hA⟩
theorem law_J {v : Ev} {b L : Nat} {xs : Nat → Int32} (hbz : b < z0 v) (hL : L ≤ 3072) (hA : oA v 0 < z0 v) : J v mL_law room_1 (lwQ2 b L xs lw_Z) (z0 v) 0 0 (fun _ => none) (z0 v) 0 (eL 9 [.ref b]) [] := by
  generalize hx : z0 v = x at hbz hA
  refine r_new (pc := 0) (tLwP.at 0 rfl) nw_L_8 (Nat.le_of_ble_eq_true rfl) (Nat.le_of_ble_eq_true rfl) (fun _ => ?_)
  refine r_dup (pc := 3) (tLwP.at 1 rfl) rfl ?_
  refine r_callI (M' := mX10_init) (pc := 4) (tLwP.at 2 rfl) (Or.inl ml_L_90) rfl rfl mw_X10_init ⟨by decide, by decide⟩ (c_xInit (x := x) (hp_eq _ _ _)) rfl rfl (Nat.le_of_ble_eq_true rfl) (Nat.le_of_ble_eq_true rfl) (Nat.le_of_ble_eq_true rfl) ?_
  rintro _ h1 _ ⟨rfl, rfl, ok1, -⟩
  refine r_astore_n (pc := 7) (i := 1) (tLwP.at 3 rfl) rfl (by decide) ?_
  refine r_new (pc := 8) (tLwP.at 4 rfl) nw_L_91 (Nat.le_of_ble_eq_true rfl) (Nat.le_of_ble_eq_true rfl) (fun _ => ?_)
  refine r_dup (pc := 11) (tLwP.at 5 rfl) rfl ?_
  refine r_callI (M' := mX11_init) (pc := 12) (tLwP.at 6 rfl) (Or.inl ml_L_93) rfl rfl mw_X11_init ⟨by decide, by decide⟩ (c_mInit (m := x + 96) (hp_eq _ _ _)) rfl rfl (Nat.le_of_ble_eq_true rfl) (Nat.le_of_ble_eq_true rfl) (Nat.le_of_ble_eq_true rfl) ?_
  rintro _ _ _ ⟨rfl, rfl, rfl⟩
  refine r_astore_n (pc := 15) (i := 2) (tLwP.at 7 rfl) rfl (by decide) ?_
  refine r_iconst (pc := 16) (w := nI 1) (tLwP.at 8 rfl) (by decide) ?_
  refine r_newaJ (pc := 17) 1 (tLwP.at 9 rfl) rfl (by omega) ac_long (Nat.le_of_ble_eq_true rfl) (Nat.le_of_ble_eq_true rfl) (fun _ => ?_)
  refine r_astore_n (pc := 19) (i := 3) (tLwP.at 10 rfl) rfl (by decide) ?_
  refine r_iconst (pc := 20) (w := nI 1) (tLwP.at 11 rfl) (by decide) ?_
  refine r_newaD (pc := 21) 1 (tLwP.at 12 rfl) rfl (by omega) ac_double (Nat.le_of_ble_eq_true rfl) (Nat.le_of_ble_eq_true rfl) (fun _ => ?_)
  refine r_astore (pc := 23) (i := 4) (tLwP.at 13 rfl) (by decide) ?_
  refine r_iconst (pc := 25) (w := nI 0) (tLwP.at 14 rfl) (by decide) ?_
  refine r_istore (pc := 26) (i := 5) (tLwP.at 15 rfl) (by decide) ?_
  refine r_ls (lwS b x 0) rfl ?_
  subst hx
  refine law_loop hbz hL L 0 _ _ _ _ (Z0 v) M0 ⟨ok1.frame (fun a h1 h2 => ?_), (mH_ext (fun k hk => ?_) (fun _ _ => rfl)).symm, ⟨⟨fun _ => 0, ?_⟩, ⟨fun _ => 0, hp_eq _ _ _⟩⟩, ⟨by omega, hA⟩, rel_0 hA⟩ (by omega) (by omega) ?_ ?_
  · rw [hp_ne _ _ (by omega), hp_ne _ _ (by omega), mH_out (by omega), hp_ne _ _ (by omega)]
  · rw [hp_ne _ _ (by omega), hp_ne _ _ (by omega)]
    exact mH_at hk
  · rw [hp_ne _ _ (by omega)]
    exact hp_eq _ _ _
  · show 112 + L + 1 ≤ 601024
    omega
  · show 18723 + 600 * (L + 1) ≤ 7293034
    omega
theorem whole_start {p : Program} {e : Env} {s : State} {m : MethodId} {below : List Frame} {meth : Method} {c : Code} (l : Launch) (hflags : l.flags = flags0) {b L : Nat} {xs : Nat → Int32} (hL : L ≤ 3072) (C0 : lw_At p s m meth c b L xs) : W p l e room_1 s m #[Value.ref b] below meth c s.heap [] 0 0 (lw_Z below #[Value.ref b] s) (entryFrame m ([Value.ref b] : List Value).toArray 9) := by
  obtain ⟨v, hz, hA, hB⟩ := start_env C0
  obtain ⟨hx, hb, hr, hml, hown, hts, hX, hbl, hlocks, hgv, hname, hext⟩ := C0
  have hl : l.stackTraces = false := by
    unfold Launch.stackTraces
    rw [hflags]
    decide
  have hF : Fx v mL_law (z0 v) p l s m #[Value.ref b] meth c := ⟨hx, hb, hml, hown, fun w hw => hts w (big_in hw), hr, hlocks, hl, hB, hz.symm, Nat.le_refl _, hname, by rw [hext]; rfl⟩
  rw [lg_entry_eq]
  have k := law_J (v := v) (b := b) (L := L) (xs := xs) (by omega) hL (by omega) p l e s m #[Value.ref b] below meth c hF s.heap [] _ hz.symm (fun a e9 h => by cases h) va_S.rf (eL_entry [.ref b] (n := 9) (Nat.le_of_ble_eq_true rfl))
  intro T hT X
  obtain ⟨t, a1, b1⟩ := k T hT X
  exact ⟨t, a1, b1 ⟨rfl, hX⟩⟩

